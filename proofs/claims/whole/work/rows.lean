section
-- pasted: part A of SKELETON.whole, and the exception laws of NAMES.whole (starting texts)
-- ===== PART A: goes FIRST, ahead of the names: the tables' words, and 'selects' of the private methods out of them =====
/-- a private method of a class that the tables say can be made, by its rows of tables_1 -/
def lw_okq (q : MethodName × Nat) : Prop := (q.1.cls ≠ "java/lang/invoke/MethodHandle" ∧ q.1.cls ≠ "java/lang/invoke/VarHandle") ∧ Cond.instantiable q.1.cls q.2 ∈ tables_1 ∧ Cond.privateMethod q.1 ∈ tables_1 ∧ Cond.instanceMethod q.1 ∈ tables_1
theorem lw_p0 : lw_okq (⟨"SeaMeeting", "putBytes", "(I)V"⟩, 13) := ⟨⟨by decide +kernel, by decide +kernel⟩, List.mem_of_getElem? (i := 21) (by decide +kernel), List.mem_of_getElem? (i := 306) (by decide +kernel), List.mem_of_getElem? (i := 307) (by decide +kernel)⟩
theorem lw_p1 : lw_okq (⟨"SeaMeeting$Outlook", "lookAtPaths", "()V"⟩, 10) := ⟨⟨by decide +kernel, by decide +kernel⟩, List.mem_of_getElem? (i := 175) (by decide +kernel), List.mem_of_getElem? (i := 349) (by decide +kernel), List.mem_of_getElem? (i := 350) (by decide +kernel)⟩
theorem lw_p2 : lw_okq (⟨"SeaMeeting$Outlook", "lookAtCourses", "()V"⟩, 10) := ⟨⟨by decide +kernel, by decide +kernel⟩, List.mem_of_getElem? (i := 175) (by decide +kernel), List.mem_of_getElem? (i := 392) (by decide +kernel), List.mem_of_getElem? (i := 393) (by decide +kernel)⟩
theorem lw_p3 : lw_okq (⟨"SeaMeeting$Outlook", "lookAtPrices", "()V"⟩, 10) := ⟨⟨by decide +kernel, by decide +kernel⟩, List.mem_of_getElem? (i := 175) (by decide +kernel), List.mem_of_getElem? (i := 400) (by decide +kernel), List.mem_of_getElem? (i := 401) (by decide +kernel)⟩
theorem lw_p4 : lw_okq (⟨"SeaMeeting$Outlook", "mostsOf", "(II)[I"⟩, 10) := ⟨⟨by decide +kernel, by decide +kernel⟩, List.mem_of_getElem? (i := 175) (by decide +kernel), List.mem_of_getElem? (i := 415) (by decide +kernel), List.mem_of_getElem? (i := 416) (by decide +kernel)⟩
theorem lw_p5 : lw_okq (⟨"SeaMeeting$Outlook", "sailingOf", "(I)LSeaMeeting$Sailing;"⟩, 10) := ⟨⟨by decide +kernel, by decide +kernel⟩, List.mem_of_getElem? (i := 175) (by decide +kernel), List.mem_of_getElem? (i := 419) (by decide +kernel), List.mem_of_getElem? (i := 420) (by decide +kernel)⟩
theorem lw_p6 : lw_okq (⟨"SeaMeeting$Outlook", "sailHour", "([I[III)V"⟩, 10) := ⟨⟨by decide +kernel, by decide +kernel⟩, List.mem_of_getElem? (i := 175) (by decide +kernel), List.mem_of_getElem? (i := 432) (by decide +kernel), List.mem_of_getElem? (i := 433) (by decide +kernel)⟩
theorem lw_p7 : lw_okq (⟨"SeaMeeting$Outlook", "sailFrom", "(II[III)V"⟩, 10) := ⟨⟨by decide +kernel, by decide +kernel⟩, List.mem_of_getElem? (i := 175) (by decide +kernel), List.mem_of_getElem? (i := 436) (by decide +kernel), List.mem_of_getElem? (i := 437) (by decide +kernel)⟩
theorem lw_p8 : lw_okq (⟨"SeaMeeting", "needNumber", "(Z)V"⟩, 13) := ⟨⟨by decide +kernel, by decide +kernel⟩, List.mem_of_getElem? (i := 21) (by decide +kernel), List.mem_of_getElem? (i := 461) (by decide +kernel), List.mem_of_getElem? (i := 462) (by decide +kernel)⟩
theorem lw_p9 : lw_okq (⟨"java/lang/Throwable", "fillInStackTrace", "(I)Ljava/lang/Throwable;"⟩, 6) := ⟨⟨by decide +kernel, by decide +kernel⟩, List.mem_of_getElem? (i := 503) (by decide +kernel), List.mem_of_getElem? (i := 501) (by decide +kernel), List.mem_of_getElem? (i := 502) (by decide +kernel)⟩
theorem lw_p10 : lw_okq (⟨"SeaMeeting$Teller", "begin", "(I)V"⟩, 15) := ⟨⟨by decide +kernel, by decide +kernel⟩, List.mem_of_getElem? (i := 122) (by decide +kernel), List.mem_of_getElem? (i := 537) (by decide +kernel), List.mem_of_getElem? (i := 538) (by decide +kernel)⟩
theorem lw_p11 : lw_okq (⟨"SeaMeeting$Teller", "readSea", "()Z"⟩, 15) := ⟨⟨by decide +kernel, by decide +kernel⟩, List.mem_of_getElem? (i := 122) (by decide +kernel), List.mem_of_getElem? (i := 543) (by decide +kernel), List.mem_of_getElem? (i := 544) (by decide +kernel)⟩
theorem lw_p12 : lw_okq (⟨"SeaMeeting$Teller", "readWord", "()Z"⟩, 15) := ⟨⟨by decide +kernel, by decide +kernel⟩, List.mem_of_getElem? (i := 122) (by decide +kernel), List.mem_of_getElem? (i := 547) (by decide +kernel), List.mem_of_getElem? (i := 548) (by decide +kernel)⟩
theorem lw_p13 : lw_okq (⟨"SeaMeeting$Teller", "skipBlanks", "()V"⟩, 15) := ⟨⟨by decide +kernel, by decide +kernel⟩, List.mem_of_getElem? (i := 122) (by decide +kernel), List.mem_of_getElem? (i := 551) (by decide +kernel), List.mem_of_getElem? (i := 552) (by decide +kernel)⟩
theorem lw_p14 : lw_okq (⟨"SeaMeeting$Teller", "byteAt", "(I)I"⟩, 15) := ⟨⟨by decide +kernel, by decide +kernel⟩, List.mem_of_getElem? (i := 122) (by decide +kernel), List.mem_of_getElem? (i := 555) (by decide +kernel), List.mem_of_getElem? (i := 556) (by decide +kernel)⟩
theorem lw_p15 : lw_okq (⟨"SeaMeeting$Teller", "fail", "(II)Z"⟩, 15) := ⟨⟨by decide +kernel, by decide +kernel⟩, List.mem_of_getElem? (i := 122) (by decide +kernel), List.mem_of_getElem? (i := 560) (by decide +kernel), List.mem_of_getElem? (i := 561) (by decide +kernel)⟩
def lw_privs_1 : List (MethodName × Nat) := [(⟨"SeaMeeting", "putBytes", "(I)V"⟩, 13), (⟨"SeaMeeting$Outlook", "lookAtPaths", "()V"⟩, 10), (⟨"SeaMeeting$Outlook", "lookAtCourses", "()V"⟩, 10), (⟨"SeaMeeting$Outlook", "lookAtPrices", "()V"⟩, 10), (⟨"SeaMeeting$Outlook", "mostsOf", "(II)[I"⟩, 10), (⟨"SeaMeeting$Outlook", "sailingOf", "(I)LSeaMeeting$Sailing;"⟩, 10), (⟨"SeaMeeting$Outlook", "sailHour", "([I[III)V"⟩, 10), (⟨"SeaMeeting$Outlook", "sailFrom", "(II[III)V"⟩, 10), (⟨"SeaMeeting", "needNumber", "(Z)V"⟩, 13), (⟨"java/lang/Throwable", "fillInStackTrace", "(I)Ljava/lang/Throwable;"⟩, 6), (⟨"SeaMeeting$Teller", "begin", "(I)V"⟩, 15), (⟨"SeaMeeting$Teller", "readSea", "()Z"⟩, 15), (⟨"SeaMeeting$Teller", "readWord", "()Z"⟩, 15), (⟨"SeaMeeting$Teller", "skipBlanks", "()V"⟩, 15), (⟨"SeaMeeting$Teller", "byteAt", "(I)I"⟩, 15), (⟨"SeaMeeting$Teller", "fail", "(II)Z"⟩, 15)]
theorem lw_r1 : ∀ q ∈ lw_privs_1, lw_okq q := List.forall_mem_cons.mpr ⟨lw_p0, List.forall_mem_cons.mpr ⟨lw_p1, List.forall_mem_cons.mpr ⟨lw_p2, List.forall_mem_cons.mpr ⟨lw_p3, List.forall_mem_cons.mpr ⟨lw_p4, List.forall_mem_cons.mpr ⟨lw_p5, List.forall_mem_cons.mpr ⟨lw_p6, List.forall_mem_cons.mpr ⟨lw_p7, List.forall_mem_cons.mpr ⟨lw_p8, List.forall_mem_cons.mpr ⟨lw_p9, List.forall_mem_cons.mpr ⟨lw_p10, List.forall_mem_cons.mpr ⟨lw_p11, List.forall_mem_cons.mpr ⟨lw_p12, List.forall_mem_cons.mpr ⟨lw_p13, List.forall_mem_cons.mpr ⟨lw_p14, List.forall_mem_cons.mpr ⟨lw_p15, fun _ h => absurd h List.not_mem_nil⟩⟩⟩⟩⟩⟩⟩⟩⟩⟩⟩⟩⟩⟩⟩⟩
theorem lw_p16 : lw_okq (⟨"SeaMeeting$Teller", "isWord", "(Ljava/lang/String;)Z"⟩, 15) := ⟨⟨by decide +kernel, by decide +kernel⟩, List.mem_of_getElem? (i := 122) (by decide +kernel), List.mem_of_getElem? (i := 565) (by decide +kernel), List.mem_of_getElem? (i := 566) (by decide +kernel)⟩
theorem lw_p17 : lw_okq (⟨"SeaMeeting$Teller", "readNumber", "(II)Z"⟩, 15) := ⟨⟨by decide +kernel, by decide +kernel⟩, List.mem_of_getElem? (i := 122) (by decide +kernel), List.mem_of_getElem? (i := 617) (by decide +kernel), List.mem_of_getElem? (i := 618) (by decide +kernel)⟩
theorem lw_p18 : lw_okq (⟨"SeaMeeting$Teller", "readEnd", "()Z"⟩, 15) := ⟨⟨by decide +kernel, by decide +kernel⟩, List.mem_of_getElem? (i := 122) (by decide +kernel), List.mem_of_getElem? (i := 621) (by decide +kernel), List.mem_of_getElem? (i := 622) (by decide +kernel)⟩
theorem lw_p19 : lw_okq (⟨"SeaMeeting$Teller", "isEnd", "()Z"⟩, 15) := ⟨⟨by decide +kernel, by decide +kernel⟩, List.mem_of_getElem? (i := 122) (by decide +kernel), List.mem_of_getElem? (i := 625) (by decide +kernel), List.mem_of_getElem? (i := 626) (by decide +kernel)⟩
theorem lw_p20 : lw_okq (⟨"SeaMeeting$Teller", "isMore", "()Z"⟩, 15) := ⟨⟨by decide +kernel, by decide +kernel⟩, List.mem_of_getElem? (i := 122) (by decide +kernel), List.mem_of_getElem? (i := 629) (by decide +kernel), List.mem_of_getElem? (i := 630) (by decide +kernel)⟩
theorem lw_p21 : lw_okq (⟨"SeaMeeting$Teller", "readSentence", "()Z"⟩, 15) := ⟨⟨by decide +kernel, by decide +kernel⟩, List.mem_of_getElem? (i := 122) (by decide +kernel), List.mem_of_getElem? (i := 633) (by decide +kernel), List.mem_of_getElem? (i := 634) (by decide +kernel)⟩
theorem lw_p22 : lw_okq (⟨"SeaMeeting$Teller", "readLand", "()Z"⟩, 15) := ⟨⟨by decide +kernel, by decide +kernel⟩, List.mem_of_getElem? (i := 122) (by decide +kernel), List.mem_of_getElem? (i := 638) (by decide +kernel), List.mem_of_getElem? (i := 639) (by decide +kernel)⟩
theorem lw_p23 : lw_okq (⟨"SeaMeeting$Teller", "readCell", "()Z"⟩, 15) := ⟨⟨by decide +kernel, by decide +kernel⟩, List.mem_of_getElem? (i := 122) (by decide +kernel), List.mem_of_getElem? (i := 642) (by decide +kernel), List.mem_of_getElem? (i := 643) (by decide +kernel)⟩
theorem lw_p24 : lw_okq (⟨"SeaMeeting$Teller", "readCurrent", "()Z"⟩, 15) := ⟨⟨by decide +kernel, by decide +kernel⟩, List.mem_of_getElem? (i := 122) (by decide +kernel), List.mem_of_getElem? (i := 653) (by decide +kernel), List.mem_of_getElem? (i := 654) (by decide +kernel)⟩
theorem lw_p25 : lw_okq (⟨"SeaMeeting$Teller", "isDirection", "()Z"⟩, 15) := ⟨⟨by decide +kernel, by decide +kernel⟩, List.mem_of_getElem? (i := 122) (by decide +kernel), List.mem_of_getElem? (i := 659) (by decide +kernel), List.mem_of_getElem? (i := 660) (by decide +kernel)⟩
theorem lw_p26 : lw_okq (⟨"SeaMeeting$Teller", "readWind", "()Z"⟩, 15) := ⟨⟨by decide +kernel, by decide +kernel⟩, List.mem_of_getElem? (i := 122) (by decide +kernel), List.mem_of_getElem? (i := 676) (by decide +kernel), List.mem_of_getElem? (i := 677) (by decide +kernel)⟩
theorem lw_p27 : lw_okq (⟨"SeaMeeting$Teller", "readDirections", "([II)Z"⟩, 15) := ⟨⟨by decide +kernel, by decide +kernel⟩, List.mem_of_getElem? (i := 122) (by decide +kernel), List.mem_of_getElem? (i := 680) (by decide +kernel), List.mem_of_getElem? (i := 681) (by decide +kernel)⟩
theorem lw_p28 : lw_okq (⟨"SeaMeeting$Teller", "readDrifter", "()Z"⟩, 15) := ⟨⟨by decide +kernel, by decide +kernel⟩, List.mem_of_getElem? (i := 122) (by decide +kernel), List.mem_of_getElem? (i := 685) (by decide +kernel), List.mem_of_getElem? (i := 686) (by decide +kernel)⟩
theorem lw_p29 : lw_okq (⟨"SeaMeeting$Teller", "isWater", "()Z"⟩, 15) := ⟨⟨by decide +kernel, by decide +kernel⟩, List.mem_of_getElem? (i := 122) (by decide +kernel), List.mem_of_getElem? (i := 689) (by decide +kernel), List.mem_of_getElem? (i := 690) (by decide +kernel)⟩
theorem lw_p30 : lw_okq (⟨"SeaMeeting$Teller", "readHelper", "()Z"⟩, 15) := ⟨⟨by decide +kernel, by decide +kernel⟩, List.mem_of_getElem? (i := 122) (by decide +kernel), List.mem_of_getElem? (i := 695) (by decide +kernel), List.mem_of_getElem? (i := 696) (by decide +kernel)⟩
theorem lw_p31 : lw_okq (⟨"SeaMeeting$Teller", "readPort", "()Z"⟩, 15) := ⟨⟨by decide +kernel, by decide +kernel⟩, List.mem_of_getElem? (i := 122) (by decide +kernel), List.mem_of_getElem? (i := 701) (by decide +kernel), List.mem_of_getElem? (i := 702) (by decide +kernel)⟩
def lw_privs_2 : List (MethodName × Nat) := [(⟨"SeaMeeting$Teller", "isWord", "(Ljava/lang/String;)Z"⟩, 15), (⟨"SeaMeeting$Teller", "readNumber", "(II)Z"⟩, 15), (⟨"SeaMeeting$Teller", "readEnd", "()Z"⟩, 15), (⟨"SeaMeeting$Teller", "isEnd", "()Z"⟩, 15), (⟨"SeaMeeting$Teller", "isMore", "()Z"⟩, 15), (⟨"SeaMeeting$Teller", "readSentence", "()Z"⟩, 15), (⟨"SeaMeeting$Teller", "readLand", "()Z"⟩, 15), (⟨"SeaMeeting$Teller", "readCell", "()Z"⟩, 15), (⟨"SeaMeeting$Teller", "readCurrent", "()Z"⟩, 15), (⟨"SeaMeeting$Teller", "isDirection", "()Z"⟩, 15), (⟨"SeaMeeting$Teller", "readWind", "()Z"⟩, 15), (⟨"SeaMeeting$Teller", "readDirections", "([II)Z"⟩, 15), (⟨"SeaMeeting$Teller", "readDrifter", "()Z"⟩, 15), (⟨"SeaMeeting$Teller", "isWater", "()Z"⟩, 15), (⟨"SeaMeeting$Teller", "readHelper", "()Z"⟩, 15), (⟨"SeaMeeting$Teller", "readPort", "()Z"⟩, 15)]
theorem lw_r2 : ∀ q ∈ lw_privs_2, lw_okq q := List.forall_mem_cons.mpr ⟨lw_p16, List.forall_mem_cons.mpr ⟨lw_p17, List.forall_mem_cons.mpr ⟨lw_p18, List.forall_mem_cons.mpr ⟨lw_p19, List.forall_mem_cons.mpr ⟨lw_p20, List.forall_mem_cons.mpr ⟨lw_p21, List.forall_mem_cons.mpr ⟨lw_p22, List.forall_mem_cons.mpr ⟨lw_p23, List.forall_mem_cons.mpr ⟨lw_p24, List.forall_mem_cons.mpr ⟨lw_p25, List.forall_mem_cons.mpr ⟨lw_p26, List.forall_mem_cons.mpr ⟨lw_p27, List.forall_mem_cons.mpr ⟨lw_p28, List.forall_mem_cons.mpr ⟨lw_p29, List.forall_mem_cons.mpr ⟨lw_p30, List.forall_mem_cons.mpr ⟨lw_p31, fun _ h => absurd h List.not_mem_nil⟩⟩⟩⟩⟩⟩⟩⟩⟩⟩⟩⟩⟩⟩⟩⟩
theorem lw_p32 : lw_okq (⟨"SeaMeeting$Teller", "readTank", "()Z"⟩, 15) := ⟨⟨by decide +kernel, by decide +kernel⟩, List.mem_of_getElem? (i := 122) (by decide +kernel), List.mem_of_getElem? (i := 706) (by decide +kernel), List.mem_of_getElem? (i := 707) (by decide +kernel)⟩
theorem lw_p33 : lw_okq (⟨"SeaMeeting", "keepWorld", "()V"⟩, 13) := ⟨⟨by decide +kernel, by decide +kernel⟩, List.mem_of_getElem? (i := 21) (by decide +kernel), List.mem_of_getElem? (i := 710) (by decide +kernel), List.mem_of_getElem? (i := 711) (by decide +kernel)⟩
theorem lw_p34 : lw_okq (⟨"SeaMeeting", "isCourseOf", "(II)Z"⟩, 13) := ⟨⟨by decide +kernel, by decide +kernel⟩, List.mem_of_getElem? (i := 21) (by decide +kernel), List.mem_of_getElem? (i := 723) (by decide +kernel), List.mem_of_getElem? (i := 724) (by decide +kernel)⟩
theorem lw_p35 : lw_okq (⟨"SeaMeeting", "needState", "(Z)V"⟩, 13) := ⟨⟨by decide +kernel, by decide +kernel⟩, List.mem_of_getElem? (i := 21) (by decide +kernel), List.mem_of_getElem? (i := 733) (by decide +kernel), List.mem_of_getElem? (i := 734) (by decide +kernel)⟩
theorem lw_p36 : lw_okq (⟨"SeaMeeting", "needHelper", "(I)V"⟩, 13) := ⟨⟨by decide +kernel, by decide +kernel⟩, List.mem_of_getElem? (i := 21) (by decide +kernel), List.mem_of_getElem? (i := 775) (by decide +kernel), List.mem_of_getElem? (i := 776) (by decide +kernel)⟩
theorem lw_p37 : lw_okq (⟨"SeaMeeting$Outlook", "lookAtNeeds", "(I)V"⟩, 10) := ⟨⟨by decide +kernel, by decide +kernel⟩, List.mem_of_getElem? (i := 175) (by decide +kernel), List.mem_of_getElem? (i := 886) (by decide +kernel), List.mem_of_getElem? (i := 887) (by decide +kernel)⟩
theorem lw_p38 : lw_okq (⟨"SeaMeeting$Outlook", "needFrom", "(II)I"⟩, 10) := ⟨⟨by decide +kernel, by decide +kernel⟩, List.mem_of_getElem? (i := 175) (by decide +kernel), List.mem_of_getElem? (i := 890) (by decide +kernel), List.mem_of_getElem? (i := 891) (by decide +kernel)⟩
theorem lw_p39 : lw_okq (⟨"SeaMeeting$Outlook", "needBy", "(III)I"⟩, 10) := ⟨⟨by decide +kernel, by decide +kernel⟩, List.mem_of_getElem? (i := 175) (by decide +kernel), List.mem_of_getElem? (i := 894) (by decide +kernel), List.mem_of_getElem? (i := 895) (by decide +kernel)⟩
theorem lw_p40 : lw_okq (⟨"SeaMeeting$Outlook", "walk", "([III)V"⟩, 10) := ⟨⟨by decide +kernel, by decide +kernel⟩, List.mem_of_getElem? (i := 175) (by decide +kernel), List.mem_of_getElem? (i := 898) (by decide +kernel), List.mem_of_getElem? (i := 899) (by decide +kernel)⟩
theorem lw_p41 : lw_okq (⟨"SeaMeeting$Outlook", "firstNeeding", "(III)I"⟩, 10) := ⟨⟨by decide +kernel, by decide +kernel⟩, List.mem_of_getElem? (i := 175) (by decide +kernel), List.mem_of_getElem? (i := 902) (by decide +kernel), List.mem_of_getElem? (i := 903) (by decide +kernel)⟩
theorem lw_p42 : lw_okq (⟨"SeaMeeting$Outlook", "giveFuel", "([I[I[I)V"⟩, 10) := ⟨⟨by decide +kernel, by decide +kernel⟩, List.mem_of_getElem? (i := 175) (by decide +kernel), List.mem_of_getElem? (i := 950) (by decide +kernel), List.mem_of_getElem? (i := 951) (by decide +kernel)⟩
theorem lw_p43 : lw_okq (⟨"SeaMeetingModel", "bad", "(ZII)Z"⟩, 20) := ⟨⟨by decide +kernel, by decide +kernel⟩, List.mem_of_getElem? (i := 967) (by decide +kernel), List.mem_of_getElem? (i := 1053) (by decide +kernel), List.mem_of_getElem? (i := 1054) (by decide +kernel)⟩
theorem lw_p44 : lw_okq (⟨"SeaMeetingModel", "takes", "(Ljava/lang/String;)Z"⟩, 20) := ⟨⟨by decide +kernel, by decide +kernel⟩, List.mem_of_getElem? (i := 967) (by decide +kernel), List.mem_of_getElem? (i := 1058) (by decide +kernel), List.mem_of_getElem? (i := 1059) (by decide +kernel)⟩
theorem lw_p45 : lw_okq (⟨"SeaMeetingModel", "fine", "()Z"⟩, 20) := ⟨⟨by decide +kernel, by decide +kernel⟩, List.mem_of_getElem? (i := 967) (by decide +kernel), List.mem_of_getElem? (i := 1062) (by decide +kernel), List.mem_of_getElem? (i := 1063) (by decide +kernel)⟩
theorem lw_p46 : lw_okq (⟨"SeaMeetingModel", "isWord", "(Ljava/lang/String;)Z"⟩, 20) := ⟨⟨by decide +kernel, by decide +kernel⟩, List.mem_of_getElem? (i := 967) (by decide +kernel), List.mem_of_getElem? (i := 1066) (by decide +kernel), List.mem_of_getElem? (i := 1067) (by decide +kernel)⟩
theorem lw_p47 : lw_okq (⟨"SeaMeetingModel", "here", "()I"⟩, 20) := ⟨⟨by decide +kernel, by decide +kernel⟩, List.mem_of_getElem? (i := 967) (by decide +kernel), List.mem_of_getElem? (i := 1070) (by decide +kernel), List.mem_of_getElem? (i := 1071) (by decide +kernel)⟩
def lw_privs_3 : List (MethodName × Nat) := [(⟨"SeaMeeting$Teller", "readTank", "()Z"⟩, 15), (⟨"SeaMeeting", "keepWorld", "()V"⟩, 13), (⟨"SeaMeeting", "isCourseOf", "(II)Z"⟩, 13), (⟨"SeaMeeting", "needState", "(Z)V"⟩, 13), (⟨"SeaMeeting", "needHelper", "(I)V"⟩, 13), (⟨"SeaMeeting$Outlook", "lookAtNeeds", "(I)V"⟩, 10), (⟨"SeaMeeting$Outlook", "needFrom", "(II)I"⟩, 10), (⟨"SeaMeeting$Outlook", "needBy", "(III)I"⟩, 10), (⟨"SeaMeeting$Outlook", "walk", "([III)V"⟩, 10), (⟨"SeaMeeting$Outlook", "firstNeeding", "(III)I"⟩, 10), (⟨"SeaMeeting$Outlook", "giveFuel", "([I[I[I)V"⟩, 10), (⟨"SeaMeetingModel", "bad", "(ZII)Z"⟩, 20), (⟨"SeaMeetingModel", "takes", "(Ljava/lang/String;)Z"⟩, 20), (⟨"SeaMeetingModel", "fine", "()Z"⟩, 20), (⟨"SeaMeetingModel", "isWord", "(Ljava/lang/String;)Z"⟩, 20), (⟨"SeaMeetingModel", "here", "()I"⟩, 20)]
theorem lw_r3 : ∀ q ∈ lw_privs_3, lw_okq q := List.forall_mem_cons.mpr ⟨lw_p32, List.forall_mem_cons.mpr ⟨lw_p33, List.forall_mem_cons.mpr ⟨lw_p34, List.forall_mem_cons.mpr ⟨lw_p35, List.forall_mem_cons.mpr ⟨lw_p36, List.forall_mem_cons.mpr ⟨lw_p37, List.forall_mem_cons.mpr ⟨lw_p38, List.forall_mem_cons.mpr ⟨lw_p39, List.forall_mem_cons.mpr ⟨lw_p40, List.forall_mem_cons.mpr ⟨lw_p41, List.forall_mem_cons.mpr ⟨lw_p42, List.forall_mem_cons.mpr ⟨lw_p43, List.forall_mem_cons.mpr ⟨lw_p44, List.forall_mem_cons.mpr ⟨lw_p45, List.forall_mem_cons.mpr ⟨lw_p46, List.forall_mem_cons.mpr ⟨lw_p47, fun _ h => absurd h List.not_mem_nil⟩⟩⟩⟩⟩⟩⟩⟩⟩⟩⟩⟩⟩⟩⟩⟩
theorem lw_p48 : lw_okq (⟨"SeaMeetingModel", "byteAt", "(I)I"⟩, 20) := ⟨⟨by decide +kernel, by decide +kernel⟩, List.mem_of_getElem? (i := 967) (by decide +kernel), List.mem_of_getElem? (i := 1074) (by decide +kernel), List.mem_of_getElem? (i := 1075) (by decide +kernel)⟩
theorem lw_p49 : lw_okq (⟨"SeaMeetingModel", "wrong", "(II)V"⟩, 20) := ⟨⟨by decide +kernel, by decide +kernel⟩, List.mem_of_getElem? (i := 967) (by decide +kernel), List.mem_of_getElem? (i := 1083) (by decide +kernel), List.mem_of_getElem? (i := 1084) (by decide +kernel)⟩
theorem lw_p50 : lw_okq (⟨"SeaMeetingModel", "number", "(II)I"⟩, 20) := ⟨⟨by decide +kernel, by decide +kernel⟩, List.mem_of_getElem? (i := 967) (by decide +kernel), List.mem_of_getElem? (i := 1087) (by decide +kernel), List.mem_of_getElem? (i := 1088) (by decide +kernel)⟩
theorem lw_p51 : lw_okq (⟨"SeaMeetingModel", "must", "(I)V"⟩, 20) := ⟨⟨by decide +kernel, by decide +kernel⟩, List.mem_of_getElem? (i := 967) (by decide +kernel), List.mem_of_getElem? (i := 1098) (by decide +kernel), List.mem_of_getElem? (i := 1099) (by decide +kernel)⟩
theorem lw_p52 : lw_okq (⟨"SeaMeetingModel", "readsLine", "()V"⟩, 20) := ⟨⟨by decide +kernel, by decide +kernel⟩, List.mem_of_getElem? (i := 967) (by decide +kernel), List.mem_of_getElem? (i := 1102) (by decide +kernel), List.mem_of_getElem? (i := 1103) (by decide +kernel)⟩
theorem lw_p53 : lw_okq (⟨"SeaMeetingModel", "readsLand", "()V"⟩, 20) := ⟨⟨by decide +kernel, by decide +kernel⟩, List.mem_of_getElem? (i := 967) (by decide +kernel), List.mem_of_getElem? (i := 1107) (by decide +kernel), List.mem_of_getElem? (i := 1108) (by decide +kernel)⟩
theorem lw_p54 : lw_okq (⟨"SeaMeetingModel", "readsCell", "(Z)V"⟩, 20) := ⟨⟨by decide +kernel, by decide +kernel⟩, List.mem_of_getElem? (i := 967) (by decide +kernel), List.mem_of_getElem? (i := 1111) (by decide +kernel), List.mem_of_getElem? (i := 1112) (by decide +kernel)⟩
theorem lw_p55 : lw_okq (⟨"SeaMeetingModel", "isTold", "(I)Z"⟩, 20) := ⟨⟨by decide +kernel, by decide +kernel⟩, List.mem_of_getElem? (i := 967) (by decide +kernel), List.mem_of_getElem? (i := 1118) (by decide +kernel), List.mem_of_getElem? (i := 1119) (by decide +kernel)⟩
theorem lw_p56 : lw_okq (⟨"SeaMeetingModel", "readsCurrent", "()V"⟩, 20) := ⟨⟨by decide +kernel, by decide +kernel⟩, List.mem_of_getElem? (i := 967) (by decide +kernel), List.mem_of_getElem? (i := 1123) (by decide +kernel), List.mem_of_getElem? (i := 1124) (by decide +kernel)⟩
theorem lw_p57 : lw_okq (⟨"SeaMeetingModel", "direction", "()I"⟩, 20) := ⟨⟨by decide +kernel, by decide +kernel⟩, List.mem_of_getElem? (i := 967) (by decide +kernel), List.mem_of_getElem? (i := 1127) (by decide +kernel), List.mem_of_getElem? (i := 1128) (by decide +kernel)⟩
theorem lw_p58 : lw_okq (⟨"SeaMeetingModel", "takesOnce", "(Ljava/lang/String;I)Z"⟩, 20) := ⟨⟨by decide +kernel, by decide +kernel⟩, List.mem_of_getElem? (i := 967) (by decide +kernel), List.mem_of_getElem? (i := 1144) (by decide +kernel), List.mem_of_getElem? (i := 1145) (by decide +kernel)⟩
theorem lw_p59 : lw_okq (⟨"SeaMeetingModel", "directions", "(III)I"⟩, 20) := ⟨⟨by decide +kernel, by decide +kernel⟩, List.mem_of_getElem? (i := 967) (by decide +kernel), List.mem_of_getElem? (i := 1148) (by decide +kernel), List.mem_of_getElem? (i := 1149) (by decide +kernel)⟩
theorem lw_p60 : lw_okq (⟨"SeaMeetingModel", "readsHelper", "(I)V"⟩, 20) := ⟨⟨by decide +kernel, by decide +kernel⟩, List.mem_of_getElem? (i := 967) (by decide +kernel), List.mem_of_getElem? (i := 1156) (by decide +kernel), List.mem_of_getElem? (i := 1157) (by decide +kernel)⟩
theorem lw_p61 : lw_okq (⟨"SeaMeetingModel", "remembers", "()V"⟩, 20) := ⟨⟨by decide +kernel, by decide +kernel⟩, List.mem_of_getElem? (i := 967) (by decide +kernel), List.mem_of_getElem? (i := 1160) (by decide +kernel), List.mem_of_getElem? (i := 1161) (by decide +kernel)⟩
theorem lw_p62 : lw_okq (⟨"SeaMeetingModel", "isCourse", "(II)Z"⟩, 20) := ⟨⟨by decide +kernel, by decide +kernel⟩, List.mem_of_getElem? (i := 967) (by decide +kernel), List.mem_of_getElem? (i := 1179) (by decide +kernel), List.mem_of_getElem? (i := 1180) (by decide +kernel)⟩
theorem lw_p63 : lw_okq (⟨"SeaMeetingModel", "isHelper", "(I)Z"⟩, 20) := ⟨⟨by decide +kernel, by decide +kernel⟩, List.mem_of_getElem? (i := 967) (by decide +kernel), List.mem_of_getElem? (i := 1183) (by decide +kernel), List.mem_of_getElem? (i := 1184) (by decide +kernel)⟩
def lw_privs_4 : List (MethodName × Nat) := [(⟨"SeaMeetingModel", "byteAt", "(I)I"⟩, 20), (⟨"SeaMeetingModel", "wrong", "(II)V"⟩, 20), (⟨"SeaMeetingModel", "number", "(II)I"⟩, 20), (⟨"SeaMeetingModel", "must", "(I)V"⟩, 20), (⟨"SeaMeetingModel", "readsLine", "()V"⟩, 20), (⟨"SeaMeetingModel", "readsLand", "()V"⟩, 20), (⟨"SeaMeetingModel", "readsCell", "(Z)V"⟩, 20), (⟨"SeaMeetingModel", "isTold", "(I)Z"⟩, 20), (⟨"SeaMeetingModel", "readsCurrent", "()V"⟩, 20), (⟨"SeaMeetingModel", "direction", "()I"⟩, 20), (⟨"SeaMeetingModel", "takesOnce", "(Ljava/lang/String;I)Z"⟩, 20), (⟨"SeaMeetingModel", "directions", "(III)I"⟩, 20), (⟨"SeaMeetingModel", "readsHelper", "(I)V"⟩, 20), (⟨"SeaMeetingModel", "remembers", "()V"⟩, 20), (⟨"SeaMeetingModel", "isCourse", "(II)Z"⟩, 20), (⟨"SeaMeetingModel", "isHelper", "(I)Z"⟩, 20)]
theorem lw_r4 : ∀ q ∈ lw_privs_4, lw_okq q := List.forall_mem_cons.mpr ⟨lw_p48, List.forall_mem_cons.mpr ⟨lw_p49, List.forall_mem_cons.mpr ⟨lw_p50, List.forall_mem_cons.mpr ⟨lw_p51, List.forall_mem_cons.mpr ⟨lw_p52, List.forall_mem_cons.mpr ⟨lw_p53, List.forall_mem_cons.mpr ⟨lw_p54, List.forall_mem_cons.mpr ⟨lw_p55, List.forall_mem_cons.mpr ⟨lw_p56, List.forall_mem_cons.mpr ⟨lw_p57, List.forall_mem_cons.mpr ⟨lw_p58, List.forall_mem_cons.mpr ⟨lw_p59, List.forall_mem_cons.mpr ⟨lw_p60, List.forall_mem_cons.mpr ⟨lw_p61, List.forall_mem_cons.mpr ⟨lw_p62, List.forall_mem_cons.mpr ⟨lw_p63, fun _ h => absurd h List.not_mem_nil⟩⟩⟩⟩⟩⟩⟩⟩⟩⟩⟩⟩⟩⟩⟩⟩
theorem lw_p64 : lw_okq (⟨"SeaMeetingModel", "canGo", "(II)Z"⟩, 20) := ⟨⟨by decide +kernel, by decide +kernel⟩, List.mem_of_getElem? (i := 967) (by decide +kernel), List.mem_of_getElem? (i := 1187) (by decide +kernel), List.mem_of_getElem? (i := 1188) (by decide +kernel)⟩
theorem lw_p65 : lw_okq (⟨"SeaMeetingModel", "helperCell", "(I)I"⟩, 20) := ⟨⟨by decide +kernel, by decide +kernel⟩, List.mem_of_getElem? (i := 967) (by decide +kernel), List.mem_of_getElem? (i := 1191) (by decide +kernel), List.mem_of_getElem? (i := 1192) (by decide +kernel)⟩
theorem lw_p66 : lw_okq (⟨"SeaMeetingModel", "fuelOf", "(I)I"⟩, 20) := ⟨⟨by decide +kernel, by decide +kernel⟩, List.mem_of_getElem? (i := 967) (by decide +kernel), List.mem_of_getElem? (i := 1213) (by decide +kernel), List.mem_of_getElem? (i := 1214) (by decide +kernel)⟩
theorem lw_p67 : lw_okq (⟨"SeaMeetingModel", "helperGoes", "(II)V"⟩, 20) := ⟨⟨by decide +kernel, by decide +kernel⟩, List.mem_of_getElem? (i := 967) (by decide +kernel), List.mem_of_getElem? (i := 1217) (by decide +kernel), List.mem_of_getElem? (i := 1218) (by decide +kernel)⟩
theorem lw_p68 : lw_okq (⟨"SeaMeetingModel", "drifterCell", "()I"⟩, 20) := ⟨⟨by decide +kernel, by decide +kernel⟩, List.mem_of_getElem? (i := 967) (by decide +kernel), List.mem_of_getElem? (i := 1227) (by decide +kernel), List.mem_of_getElem? (i := 1228) (by decide +kernel)⟩
theorem lw_p69 : lw_okq (⟨"SeaMeetingModel", "looksAhead", "()V"⟩, 20) := ⟨⟨by decide +kernel, by decide +kernel⟩, List.mem_of_getElem? (i := 967) (by decide +kernel), List.mem_of_getElem? (i := 1265) (by decide +kernel), List.mem_of_getElem? (i := 1266) (by decide +kernel)⟩
theorem lw_p70 : lw_okq (⟨"SeaMeetingModel", "earliest", "(I)I"⟩, 20) := ⟨⟨by decide +kernel, by decide +kernel⟩, List.mem_of_getElem? (i := 967) (by decide +kernel), List.mem_of_getElem? (i := 1277) (by decide +kernel), List.mem_of_getElem? (i := 1278) (by decide +kernel)⟩
theorem lw_p71 : lw_okq (⟨"SeaMeetingModel", "spreads", "([[III)V"⟩, 20) := ⟨⟨by decide +kernel, by decide +kernel⟩, List.mem_of_getElem? (i := 967) (by decide +kernel), List.mem_of_getElem? (i := 1281) (by decide +kernel), List.mem_of_getElem? (i := 1282) (by decide +kernel)⟩
theorem lw_p72 : lw_okq (⟨"SeaMeetingModel", "empties", "([I)V"⟩, 20) := ⟨⟨by decide +kernel, by decide +kernel⟩, List.mem_of_getElem? (i := 967) (by decide +kernel), List.mem_of_getElem? (i := 1285) (by decide +kernel), List.mem_of_getElem? (i := 1286) (by decide +kernel)⟩
theorem lw_p73 : lw_okq (⟨"SeaMeetingModel", "leads", "(II)V"⟩, 20) := ⟨⟨by decide +kernel, by decide +kernel⟩, List.mem_of_getElem? (i := 967) (by decide +kernel), List.mem_of_getElem? (i := 1294) (by decide +kernel), List.mem_of_getElem? (i := 1295) (by decide +kernel)⟩
def lw_privs_5 : List (MethodName × Nat) := [(⟨"SeaMeetingModel", "canGo", "(II)Z"⟩, 20), (⟨"SeaMeetingModel", "helperCell", "(I)I"⟩, 20), (⟨"SeaMeetingModel", "fuelOf", "(I)I"⟩, 20), (⟨"SeaMeetingModel", "helperGoes", "(II)V"⟩, 20), (⟨"SeaMeetingModel", "drifterCell", "()I"⟩, 20), (⟨"SeaMeetingModel", "looksAhead", "()V"⟩, 20), (⟨"SeaMeetingModel", "earliest", "(I)I"⟩, 20), (⟨"SeaMeetingModel", "spreads", "([[III)V"⟩, 20), (⟨"SeaMeetingModel", "empties", "([I)V"⟩, 20), (⟨"SeaMeetingModel", "leads", "(II)V"⟩, 20)]
theorem lw_r5 : ∀ q ∈ lw_privs_5, lw_okq q := List.forall_mem_cons.mpr ⟨lw_p64, List.forall_mem_cons.mpr ⟨lw_p65, List.forall_mem_cons.mpr ⟨lw_p66, List.forall_mem_cons.mpr ⟨lw_p67, List.forall_mem_cons.mpr ⟨lw_p68, List.forall_mem_cons.mpr ⟨lw_p69, List.forall_mem_cons.mpr ⟨lw_p70, List.forall_mem_cons.mpr ⟨lw_p71, List.forall_mem_cons.mpr ⟨lw_p72, List.forall_mem_cons.mpr ⟨lw_p73, fun _ h => absurd h List.not_mem_nil⟩⟩⟩⟩⟩⟩⟩⟩⟩⟩
def lw_privs : List (MethodName × Nat) := lw_privs_1 ++ (lw_privs_2 ++ (lw_privs_3 ++ (lw_privs_4 ++ (lw_privs_5))))
def lw_tbl : List Cond := k2_sels lw_privs ++ tables_1
theorem lw_privs_ok : ∀ q ∈ lw_privs, lw_okq q := by
  show ∀ q ∈ lw_privs_1 ++ (lw_privs_2 ++ (lw_privs_3 ++ (lw_privs_4 ++ (lw_privs_5)))), lw_okq q
  exact List.forall_mem_append.mpr ⟨lw_r1, List.forall_mem_append.mpr ⟨lw_r2, List.forall_mem_append.mpr ⟨lw_r3, List.forall_mem_append.mpr ⟨lw_r4, lw_r5⟩⟩⟩⟩
/-! ===== BEGIN words of one list among another's, by their places ===== -/
theorem goodIn_r {big : List Cond} (ws : List Cond) (ps : List Nat) (hp : ws = ps.filterMap (fun i => big[i]?)) (h : ws.all goodWord = true) : GoodIn big ws := by
  intro w hw
  have h1 := List.all_eq_true.mp h w hw
  rw [hp] at hw
  obtain ⟨i, -, hi⟩ := List.mem_filterMap.mp hw
  have hm : w ∈ big := by first | exact List.mem_of_getElem? hi | exact List.getElem?_mem hi
  exact ⟨hm, good_of_word h1⟩
theorem goodIn_app {big a b : List Cond} (ha : GoodIn big a) (hb : GoodIn big b) : GoodIn big (a ++ b) := fun w h => (List.mem_append.mp h).elim (ha w) (hb w)
theorem goodIn_ca {big a b : List Cond} {c : Cond} (ha : GoodIn big (c :: a)) (hb : GoodIn big b) : GoodIn big (c :: (a ++ b)) := fun w h => (List.mem_cons.mp h).elim (fun e => ha w (List.mem_cons.mpr (Or.inl e))) (fun h => (List.mem_append.mp h).elim (fun h => ha w (List.mem_cons.mpr (Or.inr h))) (hb w))
theorem goodIn_sub {big ws : List Cond} (hm : ∀ w ∈ ws, w ∈ big) (h : ws.all goodWord = true) : GoodIn big ws := fun w hw => ⟨hm w hw, good_of_word (List.all_eq_true.mp h w hw)⟩
/-! ===== END ===== -/


/-! ===== BEGIN exceptions that leave a method, and their catching by the caller (launches without stack traces) ===== -/
section VXA
/-! The laws vx_back, vx_callV, vx_callS, vx_callSW, vx_throw0, vx_throwS follow proofs of the library, with one case more: JvmDerived/Free/Laws.lean (Back.of_free), Shelf42/LK1.lean (callV, callS), Shelf/KitTraced.lean (throwNew0V, throwNewS). -/
/-- where a method has thrown q: the class by its name, the cell, what was written, the world -/
def vx_T (XC : String → State → State → Prop) (st : State) (q : Addr) (t : State) (mc ms : Nat) (free : Addr → Prop) : Prop :=
  ∃ (E : String) (ce : Cell) (L : List Loc), XC E st t ∧ t.heap[q]? = some ce ∧ ce.vm = .none ∧ st.vm.findClass E = some ce.cls ∧ st.WarmedH t.vm ∧ st.sameButNew ({ t with vm := st.vm } : State) L mc ms ∧ ∀ z ∈ L, free z.base
def vx_Q (Qc : Array Value → State → Outcome → State → Prop) (XC : String → State → State → Prop) (mc ms : Nat) (free : Addr → Prop) : Array Value → State → Outcome → State → Prop := fun a st o t =>
  (Qc a st o t ∧ ∃ L, FrameEnd st o t L mc ms ∧ ∀ q ∈ L, free q.base) ∨ ∃ q, o = .threw q ∧ vx_T XC st q t mc ms free
/-- a callee that returns or throws -/
def vx_Met (l : Launch) (y : MethodName) (ws : List Cond) (rm : Room) (Pc : Array Value → State → Prop) (Qc : Array Value → State → Outcome → State → Prop) (XC : String → State → State → Prop) (mc ms : Nat) (free : Addr → Prop) : Prop :=
  MetFree l y (headSpec ws rm) Pc (fun _ _ _ _ _ => True) (vx_Q Qc XC mc ms free)
def vx_Post (XC : String → State → State → Prop) (mc ms : Nat) (free : Addr → Prop) : Pt → Array Value → Addr → Pt → Prop := fun A a q B =>
  ∃ (g : JFrame) (mk : MethodId) (t : State) (L : List Loc) (E : String) (ce : Cell), B.U.heap = t.heap ∧ B.U.vm = t.vm ∧ XC E (A.U.calling g mk a) t ∧ t.heap[q]? = some ce ∧ ce.vm = .none ∧ A.U.vm.findClass E = some ce.cls ∧ B.locs = A.locs ++ L ∧ (∀ z ∈ L, free z.base) ∧ B.cells = A.cells + mc ∧ B.slots = A.slots + ms
def vx_Back (l : Launch) (R : Room) (p : Program) (e : Env) (below : List Frame) (s : State) (sargs : Array Value) (y : MethodName) (len W9 : Nat)
    (Pre : Pt → Array Value → Prop) (Post : Pt → Array Value → Option Value → Pt → Prop) (PostX : Pt → Array Value → Addr → Pt → Prop) : Prop :=
  ∀ (m : MethodId) (meth : Method) (c : Code) (A : Pt) (g : JFrame) (ig : Instr) (mk : MethodId) (a : Array Value),
    Stand p l e R s m sargs below meth c A.U A.locs A.cells A.slots → g.method = m → g.locals.size = c.maxLocals → decode c.code g.pc = .ok (ig, len) →
    2 * g.monitorRoom + (g.stack.map fun v => v.category).sum ≤ W9 → A.U.methodNamed? y = some mk → Pre A a →
    (∃ (v : Option Value) (B : Pt), Stand p l e R s m sargs below meth c B.U B.locs B.cells B.slots ∧ Post A a v B ∧
      Steps p.tables e below (doInvoke e (A.U.setTop g) [] mk a).1 (B.U.setTop { g with pc := g.pc + len, stack := v.toList ++ g.stack })) ∨
    (∃ (q : Addr) (B : Pt), Stand p l e R s m sargs below meth c B.U B.locs B.cells B.slots ∧ PostX A a q B ∧
      Steps p.tables e below (doInvoke e (A.U.setTop g) [] mk a).1 ((B.U.setTop g).pushFrame (.throwing q)))
section Payer
variable {l : Launch} {R : Room} {p : Program} {e : Env} {below : List Frame} {s : State} {sargs : Array Value} {y : MethodName} {len W9 : Nat}
theorem vx_back {ws : List Cond} {rm : Room} {Pc : Array Value → State → Prop} {Qc : Array Value → State → Outcome → State → Prop} {XC : String → State → State → Prop} {mc ms : Nat} {free : Addr → Prop} {bytes : ByteArray} {maxL : Nat} {ret : Option FieldType}
    (hM : vx_Met l y ws rm Pc Qc XC mc ms free) (hblind : FrameBlind Pc) (hrc : rm.cells = mc) (hrs : rm.slots = ms)
    (hframes : rm.frames + 1 ≤ R.frames) (hlocals : W9 + (maxL + 11) + rm.locals ≤ R.locals)
    (hws : ∀ w ∈ ws, ∀ a' U, s.WarmedH U.vm → w.before a' U = true) (hcode : Cond.code y bytes maxL ret ∈ ws) (hinit : ∀ a' U, s.WarmedH U.vm → (Cond.initialized y.cls).before a' U = true) :
    vx_Back l R p e below s sargs y len W9 (PreOf R mc ms Pc) (PostOf Qc mc ms free) (vx_Post XC mc ms free) := by
  intro m meth c A g ig mk a X hg hsize hdg hW hn hp
  have h1 : (headSpec ws rm).pre.before a A.U = true := atoms_intro fun w hw => hws w hw _ _ X.warmed
  have h2 : (Cond.code y bytes maxL ret).before a A.U = true := hws _ hcode _ _ X.warmed
  have h3 : (Cond.initialized y.cls).before a A.U = true := hinit _ _ X.warmed
  have h4 : A.cells + (headSpec ws rm).room.cells ≤ R.cells := by rw [show (headSpec ws rm).room.cells = mc from hrc]; exact hp.1
  have h5 : A.slots + (headSpec ws rm).room.slots ≤ R.slots := by rw [show (headSpec ws rm).room.slots = ms from hrs]; exact hp.2.1
  have hPc : Pc a (A.U.calling g mk a) := hblind _ _ _ _ hp.2.2
  obtain ⟨U, Ls, c0, s0⟩ := A
  dsimp only [Pt.U, Pt.locs, Pt.cells, Pt.slots] at h1 h2 h3 h4 h5 X hn hPc ⊢
  obtain ⟨methY, cY, hmY, hcY, -, hlY, -, -, -, -⟩ := Cond.code_spec hn h2
  obtain ⟨kY, hkY, -⟩ := className_of_methodNamed hn
  have hinitY : kY.init = .initialized := Cond.initialized_spec (findClass_of_methodNamed hn) hkY h3
  have h : At U g.method c below := by rw [hg]; exact X.here
  have hlocals9 : W9 + (maxL + 11) + (headSpec ws rm).room.locals ≤ R.locals := hlocals
  have happ : (headSpec ws rm).appliesLoose y e.platform (U.calling g mk a) = true :=
    Spec.appliesLoose_calling (g := g) h hdg hn hkY hinitY
      (X.room_calling (g := g) (R' := (headSpec ws rm).room) hsize hmY hcY hframes (by rw [hlY]; omega) h4 h5) h1
  obtain ⟨mid, hmid⟩ := h.above
  have hfr : (U.setTop g).frames = (.java g :: mid) ++ below := by rw [State.frames_setTop' g h.top, hmid]; rfl
  obtain ⟨o, s₂, hsteps, -, hend, hq⟩ := Steps.callFree hM p X.admits X.cas X.clock (acts := []) hfr happ hPc trivial
  have hq' : vx_Q Qc XC mc ms free a (U.calling g mk a) o s₂ := hq
  rw [State.frames_setTop' g h.top] at hend
  obtain ⟨g₀, hg0⟩ := Option.isSome_iff_exists.mp h.top
  obtain ⟨r, hr⟩ := State.topJava?_eq_some.mp hg0
  have hr' : (({ U with heap := s₂.heap, slotsUsed := s₂.slotsUsed } : State).setVm s₂.vm).frames = .java g₀ :: r := hr
  rcases hq' with ⟨hqc, L, hfe, hL⟩ | ⟨q, rfl, E, ce, L, hx, hce, hcv, hcl, hW₂, hsm, hL⟩
  · obtain ⟨⟨v, rfl⟩, hW₂, e2, q2, q3, q4, q5, q6⟩ := id hfe
    have e3 : s₂ = ({ (U.calling g mk a).setFrames s₂.frames with heap := s₂.heap, slotsUsed := s₂.slotsUsed } : State).setVm s₂.vm := by
      have : s₂ = ({ s₂ with vm := (U.calling g mk a).vm } : State).setVm s₂.vm := rfl
      rw [e2] at this
      exact this
    obtain ⟨c₂, i₂, len₂, hc₂, hd₂, hf₂⟩ := hend
    have hW' : U.WarmedH s₂.vm := hW₂
    have hcc : c₂ = c := by
      have h1 : s₂.code? g.method = U.code? g.method := by
        rw [State.code?_eq, State.code?_eq, hW'.alike.method?]
      exact Option.some.inj (hc₂.symm.trans (h1.trans h.code))
    subst hcc
    have hlen : len₂ = len := by rw [hdg] at hd₂; cases hd₂; rfl
    subst hlen
    have hs₂ : s₂ = (({ U with heap := s₂.heap, slotsUsed := s₂.slotsUsed } : State).setVm s₂.vm).setTop { g with pc := g.pc + len₂, stack := v.toList ++ g.stack } := by
      refine e3.trans ?_
      rw [hf₂, State.calling_eq h.top, State.setFrames_setFrames, State.setTop_of_frames _ hr', hr]
      rfl
    have hsame : U.sameButNew ({ U with heap := s₂.heap, slotsUsed := s₂.slotsUsed } : State) L mc ms := by
      refine ⟨?_, q2, q3, q4, q5, q6⟩
      obtain ⟨t, ht, -⟩ := State.frames_cons hr
      show ({ U with heap := s₂.heap, slotsUsed := s₂.slotsUsed } : State) = { U.setFrames U.frames with heap := s₂.heap, slotsUsed := s₂.slotsUsed }
      rw [State.setFrames_self ht]
    subst hg
    refine Or.inl ⟨v, ⟨(({ U with heap := s₂.heap, slotsUsed := s₂.slotsUsed } : State).setVm s₂.vm), Ls ++ L, c0 + mc, s0 + ms⟩,
      ⟨X.admits, X.cas, X.clock, X.frames, X.room, X.hears, X.method, X.code, (X.here.setHeapUsed s₂.heap s₂.slotsUsed).setVm hW'.alike, X.tail, State.WarmedH.trans X.warmed hW', X.limits, X.bytes, X.same.trans (hsame.setVm s.vm)⟩,
      ⟨g, mk, s₂, L, rfl, rfl, hqc, rfl, hL, rfl, rfl⟩, ?_⟩
    show Steps p.tables e below _ ((({ U with heap := s₂.heap, slotsUsed := s₂.slotsUsed } : State).setVm s₂.vm).setTop { g with pc := g.pc + len₂, stack := v.toList ++ g.stack })
    rw [← hs₂]
    exact hsteps
  · obtain ⟨e2, q2, q3, q4, q5, q6⟩ := id hsm
    have e3 : s₂ = ({ (U.calling g mk a).setFrames s₂.frames with heap := s₂.heap, slotsUsed := s₂.slotsUsed } : State).setVm s₂.vm := by
      have : s₂ = ({ s₂ with vm := (U.calling g mk a).vm } : State).setVm s₂.vm := rfl
      rw [e2] at this
      exact this
    have hf₂ : s₂.frames = .throwing q :: .java g :: U.frames.tail := hend
    have hW' : U.WarmedH s₂.vm := hW₂
    have hs₂ : s₂ = ((({ U with heap := s₂.heap, slotsUsed := s₂.slotsUsed } : State).setVm s₂.vm).setTop g).pushFrame (.throwing q) := by
      refine e3.trans ?_
      rw [hf₂, State.calling_eq h.top, State.setFrames_setFrames, State.pushFrame, State.frames_setTop _ hr', State.setTop_of_frames _ hr', State.setFrames_setFrames, hr]
      rfl
    have hsame : U.sameButNew ({ U with heap := s₂.heap, slotsUsed := s₂.slotsUsed } : State) L mc ms := by
      refine ⟨?_, q2, q3, q4, q5, q6⟩
      obtain ⟨t, ht, -⟩ := State.frames_cons hr
      show ({ U with heap := s₂.heap, slotsUsed := s₂.slotsUsed } : State) = { U.setFrames U.frames with heap := s₂.heap, slotsUsed := s₂.slotsUsed }
      rw [State.setFrames_self ht]
    subst hg
    refine Or.inr ⟨q, ⟨(({ U with heap := s₂.heap, slotsUsed := s₂.slotsUsed } : State).setVm s₂.vm), Ls ++ L, c0 + mc, s0 + ms⟩,
      ⟨X.admits, X.cas, X.clock, X.frames, X.room, X.hears, X.method, X.code, (X.here.setHeapUsed s₂.heap s₂.slotsUsed).setVm hW'.alike, X.tail, State.WarmedH.trans X.warmed hW', X.limits, X.bytes, X.same.trans (hsame.setVm s.vm)⟩,
      ⟨g, mk, s₂, L, E, ce, rfl, rfl, hx, hce, hcv, hcl, rfl, hL, rfl, rfl⟩, ?_⟩
    show Steps p.tables e below _ (((({ U with heap := s₂.heap, slotsUsed := s₂.slotsUsed } : State).setVm s₂.vm).setTop g).pushFrame (.throwing q))
    rw [← hs₂]
    exact hsteps
end Payer
section Calls
variable {p : Program} {l : Launch} {e : Env} {R : Room} {s : State} {m : MethodId} {args : Array Value} {below : List Frame} {meth : Method} {c : Code} {T : State} {locs : List Loc} {cells slots : Nat}
theorem vx_callV (X : Stand p l e R s m args below meth c T locs cells slots) (hexec : p.tables.exec = Jvm.exec) {own C : String} {index : Nat} {y : MethodName} {bytes : ByteArray} {maxL : Nat} {ret : Option FieldType}
    (hown : s.vm.findClass own = some m.cls) (hlink : (Cond.methodLink own index y).before args s = true) (hinst : (Cond.instanceMethod y).before args s = true) (hsel : (Cond.selects C y y).before args s = true)
    (hcode : (Cond.code y bytes maxL ret).before args s = true) (hy : y.cls ≠ "java/lang/invoke/MethodHandle" ∧ y.cls ≠ "java/lang/invoke/VarHandle")
    {W9 : Nat} {Pre : Pt → Array Value → Prop} {Post : Pt → Array Value → Option Value → Pt → Prop} {PostX : Pt → Array Value → Addr → Pt → Prop} (hK : vx_Back l R p e below s args y 3 W9 Pre Post PostX)
    {b : Addr} {cellB : Cell} (hcell : T.heap[b]? = some cellB) (hobj : cellB.vm.isStatics = false) (hcls : s.vm.findClass C = some cellB.cls)
    {g : JFrame} (hg : g.method = m) (hsize : g.locals.size = c.maxLocals) {argsL rest : List Value} (hlen : ∀ sig, parseMethodDescriptor y.desc = some sig → argsL.length = sig.parameters.length)
    (hstack : g.stack = argsL.reverse ++ .ref b :: rest) (hW : 2 * g.monitorRoom + (rest.map fun v => v.category).sum ≤ W9) (hdg : decode c.code g.pc = .ok (.invokevirtual index, 3))
    (hpre : ∀ vm₁, s.WarmedH vm₁ → Pre ⟨T.setVm vm₁, locs, cells, slots⟩ (Value.ref b :: argsL).toArray) :
    (∃ (v : Option Value) (vm₁ : Vm) (B : Pt), s.WarmedH vm₁ ∧ Stand p l e R s m args below meth c B.U B.locs B.cells B.slots ∧ Post ⟨T.setVm vm₁, locs, cells, slots⟩ (Value.ref b :: argsL).toArray v B ∧
      ∀ target, Steps p.tables e below (B.U.setTop { g with pc := g.pc + 3, stack := v.toList ++ rest }) target → Steps p.tables e below (T.setTop g) target) ∨
    (∃ (q : Addr) (vm₁ : Vm) (B : Pt), s.WarmedH vm₁ ∧ Stand p l e R s m args below meth c B.U B.locs B.cells B.slots ∧ PostX ⟨T.setVm vm₁, locs, cells, slots⟩ (Value.ref b :: argsL).toArray q B ∧
      Steps p.tables e below (T.setTop g) ((B.U.setTop { g with stack := rest }).pushFrame (.throwing q))) := by
  obtain ⟨mk, methM, hnamed, hmethM, hstM, habM⟩ := Cond.instanceMethod_spec hinst
  obtain ⟨methM', cM, hmethM', -, -, -, -, -, -, hsigM⟩ := Cond.code_spec hnamed hcode
  cases hmethM.symm.trans hmethM'
  obtain ⟨c2, r2, m2, q1, q2, q3, q4, kP, hkP, hkPi⟩ := Cond.selects_spec hsel
  cases hcls.symm.trans q1
  cases (State.methodFound?_of_named hnamed hy).symm.trans q2
  cases hnamed.symm.trans q3
  have hselP : selectMethod e.platform s.vm cellB.cls mk = .method mk := by rw [Launch.admits_selectMethod X.admits]; exact q4
  obtain ⟨vm₁, X₁, hstep₁⟩ := X.invokevirtual hexec hown hlink hnamed hmethM hstM hkP hkPi hy (a := b) (cell := cellB) hcell
    (fun z h => by rw [h] at hobj; cases hobj) hselP hmethM habM hkP hkPi (g := g) hg (argsL := argsL) (rest := rest) (hlen _ hsigM) hstack hdg
  rcases hK m meth c ⟨T.setVm vm₁, locs, cells, slots⟩ { g with stack := rest } (.invokevirtual index) mk (Value.ref b :: argsL).toArray X₁ hg hsize hdg hW (X₁.named hnamed) (hpre vm₁ X₁.warmed) with ⟨v, B, X', hpost, hsteps⟩ | ⟨q, B, X', hpost, hsteps⟩
  · exact Or.inl ⟨v, vm₁, B, X₁.warmed, X', hpost, fun target h => hstep₁ _ fun acts => by rw [doInvoke_state]; exact hsteps.trans h⟩
  · exact Or.inr ⟨q, vm₁, B, X₁.warmed, X', hpost, hstep₁ _ fun acts => by rw [doInvoke_state]; exact hsteps⟩
theorem vx_callS (X : Stand p l e R s m args below meth c T locs cells slots) (hexec : p.tables.exec = Jvm.exec) {own : String} {index : Nat} {y : MethodName} {bytes : ByteArray} {maxL : Nat} {ret : Option FieldType}
    (hown : s.vm.findClass own = some m.cls) (hlink : (Cond.methodLink own index y).before args s = true) (hstat : (Cond.static y).before args s = true) (hinit : (Cond.initialized y.cls).before args s = true)
    (hcode : (Cond.code y bytes maxL ret).before args s = true) (hy : y.cls ≠ "java/lang/invoke/MethodHandle" ∧ y.cls ≠ "java/lang/invoke/VarHandle")
    {W9 : Nat} {Pre : Pt → Array Value → Prop} {Post : Pt → Array Value → Option Value → Pt → Prop} {PostX : Pt → Array Value → Addr → Pt → Prop} (hK : vx_Back l R p e below s args y 3 W9 Pre Post PostX)
    {g : JFrame} (hg : g.method = m) (hsize : g.locals.size = c.maxLocals) {argsL rest : List Value} (hlen : ∀ sig, parseMethodDescriptor y.desc = some sig → argsL.length = sig.parameters.length)
    (hstack : g.stack = argsL.reverse ++ rest) (hW : 2 * g.monitorRoom + (rest.map fun v => v.category).sum ≤ W9) (hdg : decode c.code g.pc = .ok (.invokestatic index, 3))
    (hpre : ∀ vm₁, s.WarmedH vm₁ → Pre ⟨T.setVm vm₁, locs, cells, slots⟩ argsL.toArray) :
    (∃ (v : Option Value) (vm₁ : Vm) (B : Pt), s.WarmedH vm₁ ∧ Stand p l e R s m args below meth c B.U B.locs B.cells B.slots ∧ Post ⟨T.setVm vm₁, locs, cells, slots⟩ argsL.toArray v B ∧
      ∀ target, Steps p.tables e below (B.U.setTop { g with pc := g.pc + 3, stack := v.toList ++ rest }) target → Steps p.tables e below (T.setTop g) target) ∨
    (∃ (q : Addr) (vm₁ : Vm) (B : Pt), s.WarmedH vm₁ ∧ Stand p l e R s m args below meth c B.U B.locs B.cells B.slots ∧ PostX ⟨T.setVm vm₁, locs, cells, slots⟩ argsL.toArray q B ∧
      Steps p.tables e below (T.setTop g) ((B.U.setTop { g with stack := rest }).pushFrame (.throwing q))) := by
  obtain ⟨mk, hnamed⟩ := Cond.code_named hcode
  obtain ⟨methM, cM, hmethM, -, -, -, -, -, -, hsigM⟩ := Cond.code_spec hnamed hcode
  have hstatic : methM.isStatic = true := Cond.static_spec hnamed hmethM hstat
  obtain ⟨kP, hkP, -⟩ := className_of_methodNamed hnamed
  have hinitP : kP.init = .initialized := Cond.initialized_spec (findClass_of_methodNamed hnamed) hkP hinit
  obtain ⟨vm₁, X₁, hstep₁⟩ := X.invokestatic hexec hown hlink hnamed hmethM hstatic hkP hinitP hy (g := g) hg (argsL := argsL) (rest := rest) (hlen _ hsigM) hstack hdg
  rcases hK m meth c ⟨T.setVm vm₁, locs, cells, slots⟩ { g with stack := rest } (.invokestatic index) mk argsL.toArray X₁ hg hsize hdg hW (X₁.named hnamed) (hpre vm₁ X₁.warmed) with ⟨v, B, X', hpost, hsteps⟩ | ⟨q, B, X', hpost, hsteps⟩
  · exact Or.inl ⟨v, vm₁, B, X₁.warmed, X', hpost, fun target h => hstep₁ _ fun acts => by rw [doInvoke_state]; exact hsteps.trans h⟩
  · exact Or.inr ⟨q, vm₁, B, X₁.warmed, X', hpost, hstep₁ _ fun acts => by rw [doInvoke_state]; exact hsteps⟩
end Calls
theorem vx_cls {s : State} {T : State} {vm₁ : Vm} {E : String} {k : ClassId} (hW : s.WarmedH vm₁) (h : (T.setVm vm₁).vm.findClass E = some k) : s.vm.findClass E = some k := by
  have h1 : vm₁.findClass E = some k := h
  rw [hW.alike.findClass] at h1
  exact h1
/-- the method's frame g, with q thrown over it -/
def vx_W (p : Program) (l : Launch) (e : Env) (R : Room) (s : State) (m : MethodId) (args : Array Value) (below : List Frame) (meth : Method) (c : Code) (H : Heap) (locs : List Loc) (cells slots : Nat) (Q : State → Prop) (g : JFrame) (q : Addr) : Prop :=
  ∀ T : State, T.heap = H → Stand p l e R s m args below meth c T locs cells slots → ∃ t, Steps p.tables e below ((T.setTop g).pushFrame (.throwing q)) t ∧ Q t
def vx_Run (p : Program) (l : Launch) (e : Env) (R : Room) (s : State) (m : MethodId) (args : Array Value) (below : List Frame) (meth : Method) (c : Code) (H : Heap) (locs : List Loc) (cells slots mc ms : Nat) (g : JFrame) (rest : List Value) (Qa : State → Outcome → State → Prop) (XC : String → State → State → Prop) (free : Addr → Prop) : Prop :=
  ∀ T : State, T.heap = H → Stand p l e R s m args below meth c T locs cells slots →
    (∃ (v : Option Value) (st₀ t T' : State) (L : List Loc), st₀.heap = H ∧ Stand p l e R s m args below meth c T' (locs ++ L) (cells + mc) (slots + ms) ∧ (∀ q ∈ L, free q.base) ∧ T'.heap = t.heap ∧ T'.vm = t.vm ∧ Qa st₀ (.returned v) t ∧
      Goes p e below T g T' { g with pc := g.pc + 3, stack := v.toList ++ rest }) ∨
    (∃ (q : Addr) (st₀ t T' : State) (L : List Loc) (E : String) (ce : Cell), st₀.heap = H ∧ Stand p l e R s m args below meth c T' (locs ++ L) (cells + mc) (slots + ms) ∧ (∀ z ∈ L, free z.base) ∧ T'.heap = t.heap ∧ T'.vm = t.vm ∧ XC E st₀ t ∧ t.heap[q]? = some ce ∧ ce.vm = .none ∧ s.vm.findClass E = some ce.cls ∧
      Steps p.tables e below (T.setTop g) ((T'.setTop { g with stack := rest }).pushFrame (.throwing q)))
def vx_X {S : Type} (px : S → Prop) (B : String → S → State → Prop) (A : Nat → Prop) : String → State → State → Prop := fun E st t => ∃ u : S, px u ∧ B E u t ∧ va_F A st t
section Runs
variable {p : Program} {l : Launch} {e : Env} {R : Room} {s : State} {m : MethodId} {args : Array Value} {below : List Frame} {meth : Method} {c : Code} {H : Heap} {locs : List Loc} {cells slots : Nat}
variable {y : MethodName} {bytes cc : ByteArray} {maxL nL mc ms n index : Nat} {ret : Option FieldType} {ws : List Cond} {rm : Room} {Pc : Array Value → State → Prop} {Qc : Array Value → State → Outcome → State → Prop} {XC : String → State → State → Prop} {free : Addr → Prop} {Ts : List Cond} {own C : String} {b : Addr} {As rest : List Value} {g : JFrame}
theorem vx_callBack (cb : CallB R s args own index y bytes maxL ret ws rm mc ms n) (hM : vx_Met l y ws rm Pc Qc XC mc ms free) (hbl : FrameBlind Pc) : vx_Back l R p e below s args y 3 8 (PreOf R mc ms Pc) (PostOf Qc mc ms free) (vx_Post XC mc ms free) := by
  obtain ⟨hrc, hrs, hfr, hlo, hws, hcw, -, hini, -⟩ := cb
  exact vx_back (bytes := bytes) (maxL := maxL) (ret := ret) hM hbl hrc hrs hfr hlo hws hcw (fun a' U hW => word_at hW (Or.inl (by first | rfl | simp [Cond.onTables, Cond.keeps, Cond.steady])) hini)
theorem vx_runV (S : CallFix p m c cc nL s args Ts own) (hM : vx_Met l y ws rm Pc Qc XC mc ms free) (cw : CallW R s args own C index y bytes maxL ret ws rm mc ms n) (hp : PreV s H C b Pc As)
    (hg : g.method = m) (hn : As.length = n) (hsize : g.locals.size = nL) (hstack : g.stack = As.reverse ++ .ref b :: rest) (hW : 2 * g.monitorRoom + (rest.map fun v => v.category).sum ≤ 8) (hdg : decode cc g.pc = .ok (.invokevirtual index, 3)) (hf : cells + mc ≤ R.cells ∧ slots + ms ≤ R.slots) :
    vx_Run p l e R s m args below meth c H locs cells slots mc ms g rest (Qc (Value.ref b :: As).toArray) XC free := by
  have hK : vx_Back l R p e below s args y 3 8 (PreOf R mc ms Pc) (PostOf Qc mc ms free) (vx_Post XC mc ms free) := vx_callBack cw.1 hM hp.1
  obtain ⟨⟨-, -, -, -, -, -, hcode, -, hy, hlen, hl⟩, hin, hse⟩ := cw
  obtain ⟨hx, hb, hml, ho, -⟩ := S
  obtain ⟨-, ⟨cellB, hcB, hoB, hclB⟩, hPc⟩ := hp
  intro T hT X
  rcases vx_callV X hx (C := C) (bytes := bytes) (maxL := maxL) (ret := ret) ho hl hin hse hcode hy hK (by rw [hT]; exact hcB) hoB hclB hg (hsize.trans hml.symm) (argsL := As) (rest := rest) (fun sig h => hn.trans (hlen sig h)) hstack hW (by rw [hb]; exact hdg)
    (fun vm₁ hW₁ => ⟨hf.1, hf.2, hPc (T.setVm vm₁) hT hW₁⟩) with ⟨v, vm₁, ⟨U', l2, c2, s2⟩, hW₁, X', ⟨g', mk, t, L, e1, e2, hq, h1, hL, h2, h3⟩, st⟩ | ⟨q, vm₁, ⟨U', l2, c2, s2⟩, hW₁, X', ⟨g', mk, t, L, E, ce, e1, e2, hq, hce, hcv, hcl, h1, hL, h2, h3⟩, st⟩
  · dsimp only [Pt.U, Pt.locs, Pt.cells, Pt.slots] at X' e1 e2 h1 h2 h3 st
    subst h1; subst h2; subst h3
    exact Or.inl ⟨v, (T.setVm vm₁).calling g' mk (Value.ref b :: As).toArray, t, U', L, hT, X', hL, e1, e2, hq, st⟩
  · dsimp only [Pt.U, Pt.locs, Pt.cells, Pt.slots] at X' e1 e2 h1 h2 h3 st hcl
    subst h1; subst h2; subst h3
    exact Or.inr ⟨q, (T.setVm vm₁).calling g' mk (Value.ref b :: As).toArray, t, U', L, E, ce, hT, X', hL, e1, e2, hq, hce, hcv, vx_cls hW₁ hcl, st⟩
theorem vx_runS (S : CallFix p m c cc nL s args Ts own) (hM : vx_Met l y ws rm Pc Qc XC mc ms free) (cw : CallB R s args own index y bytes maxL ret ws rm mc ms n ∧ (Cond.static y).before args s = true) (hp : PreS s H Pc As)
    (hg : g.method = m) (hn : As.length = n) (hsize : g.locals.size = nL) (hstack : g.stack = As.reverse ++ rest) (hW : 2 * g.monitorRoom + (rest.map fun v => v.category).sum ≤ 8) (hdg : decode cc g.pc = .ok (.invokestatic index, 3)) (hf : cells + mc ≤ R.cells ∧ slots + ms ≤ R.slots) :
    vx_Run p l e R s m args below meth c H locs cells slots mc ms g rest (Qc As.toArray) XC free := by
  have hK : vx_Back l R p e below s args y 3 8 (PreOf R mc ms Pc) (PostOf Qc mc ms free) (vx_Post XC mc ms free) := vx_callBack cw.1 hM hp.1
  obtain ⟨⟨-, -, -, -, -, -, hcode, hini, hy, hlen, hl⟩, hstt⟩ := cw
  obtain ⟨hx, hb, hml, ho, -⟩ := S
  intro T hT X
  rcases vx_callS X hx (bytes := bytes) (maxL := maxL) (ret := ret) ho hl hstt hini hcode hy hK hg (hsize.trans hml.symm) (argsL := As) (rest := rest) (fun sig h => hn.trans (hlen sig h)) hstack hW (by rw [hb]; exact hdg)
    (fun vm₁ hW₁ => ⟨hf.1, hf.2, hp.2 (T.setVm vm₁) hT hW₁⟩) with ⟨v, vm₁, ⟨U', l2, c2, s2⟩, hW₁, X', ⟨g', mk, t, L, e1, e2, hq, h1, hL, h2, h3⟩, st⟩ | ⟨q, vm₁, ⟨U', l2, c2, s2⟩, hW₁, X', ⟨g', mk, t, L, E, ce, e1, e2, hq, hce, hcv, hcl, h1, hL, h2, h3⟩, st⟩
  · dsimp only [Pt.U, Pt.locs, Pt.cells, Pt.slots] at X' e1 e2 h1 h2 h3 st
    subst h1; subst h2; subst h3
    exact Or.inl ⟨v, (T.setVm vm₁).calling g' mk As.toArray, t, U', L, hT, X', hL, e1, e2, hq, st⟩
  · dsimp only [Pt.U, Pt.locs, Pt.cells, Pt.slots] at X' e1 e2 h1 h2 h3 st hcl
    subst h1; subst h2; subst h3
    exact Or.inr ⟨q, (T.setVm vm₁).calling g' mk As.toArray, t, U', L, E, ce, hT, X', hL, e1, e2, hq, hce, hcv, vx_cls hW₁ hcl, st⟩
end Runs
section Rows
variable {p : Program} {l : Launch} {e : Env} {R : Room} {s : State} {m : MethodId} {args : Array Value} {below : List Frame} {meth : Method} {c : Code} {H : Heap} {locs : List Loc} {cells slots : Nat} {Q : State → Prop}
variable {mc ms : Nat} {free : Addr → Prop} {A0 A1 : Nat → Prop} {H0 : Heap} {a : Array Value} {pc : Nat} {ls : Array Slot} {st0 rest : List Value}
theorem vx_keep {st₀ t T' : State} {L : List Loc} (h0 : st₀.heap = H) (e1 : T'.heap = t.heap) (hS : va_S A0 H0 H locs) (hA : ∀ q, q < H.size → A1 q → A0 q) (hf : ∀ q, free q → A0 q) (hL : ∀ q ∈ L, free q.base) (hF : va_F A1 st₀ t) :
    H.size ≤ T'.heap.size ∧ (∀ q : Nat, q < H.size → ¬ A1 q → T'.heap[q]? = H[q]?) ∧ va_S A0 H0 T'.heap (locs ++ L) := by
  obtain ⟨hz, hk⟩ := hF
  rw [h0] at hz hk
  exact ⟨by rw [e1]; exact hz, fun q h1 h2 => by rw [e1]; exact hk q h1 h2,
    ⟨Nat.le_trans hS.1 (by rw [e1]; exact hz), fun q h1 h2 => by rw [e1, hk q (Nat.lt_of_lt_of_le h1 hS.1) (fun z => h2 (hA q (Nat.lt_of_lt_of_le h1 hS.1) z))]; exact hS.2.1 q h1 h2, fun q hq => by
      rcases List.mem_append.mp hq with h | h
      · exact hS.2.2 q h
      · exact hf _ (hL q h)⟩⟩
theorem vx_calli {S SX : Type} {post : Int32 → S → Prop} {px : SX → Prop} {B : S → State → Prop} {BX : String → SX → State → Prop} {AX : Nat → Prop} (hr : vx_Run p l e R s m args below meth c H locs cells slots mc ms (F0 m pc ls st0) rest (va_Qi post B A1 a) (vx_X px BX AX) free) (hS : va_S A0 H0 H locs) (hA : ∀ q, q < H.size → A1 q → A0 q) (hf : ∀ q, free q → A0 q) (hAX : ∀ q, q < H.size → AX q → A0 q)
    (kx : ∀ (E : String) (ce : Cell) (q9 : Addr) (u : SX) (t : State) (H1 : Heap) (locs1 : List Loc), t.heap = H1 → s.vm.Alike t.vm → px u → BX E u t → H.size ≤ H1.size → (∀ q : Nat, q < H.size → ¬ AX q → H1[q]? = H[q]?) → va_S A0 H0 H1 locs1 → H1[q9]? = some ce → ce.vm = .none → s.vm.findClass E = some ce.cls → vx_W p l e R s m args below meth c H1 locs1 (cells + mc) (slots + ms) Q (F0 m pc ls rest) q9)
    (kk : ∀ (r : Int32) (u : S) (t : State) (H1 : Heap) (locs1 : List Loc), t.heap = H1 → s.vm.Alike t.vm → post r u → B u t → H.size ≤ H1.size → (∀ q : Nat, q < H.size → ¬ A1 q → H1[q]? = H[q]?) → va_S A0 H0 H1 locs1 → W p l e R s m args below meth c H1 locs1 (cells + mc) (slots + ms) Q (F0 m (pc + 3) ls (.int r :: rest))) : W p l e R s m args below meth c H locs cells slots Q (F0 m pc ls st0) := by
  intro T hT X
  rcases hr T hT X with ⟨v, st₀, t, T', L, h0, X', hL, e1, e2, ⟨⟨r, u, hv, hp, hb⟩, hF⟩, st⟩ | ⟨q, st₀, t, T', L, E, ce, h0, X', hL, e1, e2, ⟨u, hp, hb, hF⟩, hce, hcv, hcl, st⟩
  · cases hv
    obtain ⟨k1, k2, k3⟩ := vx_keep h0 e1 hS hA hf hL hF
    obtain ⟨t2, a1, b1⟩ := kk r u t T'.heap (locs ++ L) e1.symm (by rw [← e2]; exact X'.warmed.alike) hp hb k1 k2 k3 T' rfl X'
    exact ⟨t2, st t2 a1, b1⟩
  · obtain ⟨k1, k2, k3⟩ := vx_keep h0 e1 hS hAX hf hL hF
    obtain ⟨t2, a1, b1⟩ := kx E ce q u t T'.heap (locs ++ L) e1.symm (by rw [← e2]; exact X'.warmed.alike) hp hb k1 k2 k3 (by rw [e1]; exact hce) hcv hcl T' rfl X'
    exact ⟨t2, st.trans a1, b1⟩
theorem vx_calll {S SX : Type} {post : Int64 → S → Prop} {px : SX → Prop} {B : S → State → Prop} {BX : String → SX → State → Prop} {AX : Nat → Prop} (hr : vx_Run p l e R s m args below meth c H locs cells slots mc ms (F0 m pc ls st0) rest (va_Ql post B A1 a) (vx_X px BX AX) free) (hS : va_S A0 H0 H locs) (hA : ∀ q, q < H.size → A1 q → A0 q) (hf : ∀ q, free q → A0 q) (hAX : ∀ q, q < H.size → AX q → A0 q)
    (kx : ∀ (E : String) (ce : Cell) (q9 : Addr) (u : SX) (t : State) (H1 : Heap) (locs1 : List Loc), t.heap = H1 → s.vm.Alike t.vm → px u → BX E u t → H.size ≤ H1.size → (∀ q : Nat, q < H.size → ¬ AX q → H1[q]? = H[q]?) → va_S A0 H0 H1 locs1 → H1[q9]? = some ce → ce.vm = .none → s.vm.findClass E = some ce.cls → vx_W p l e R s m args below meth c H1 locs1 (cells + mc) (slots + ms) Q (F0 m pc ls rest) q9)
    (kk : ∀ (r : Int64) (u : S) (t : State) (H1 : Heap) (locs1 : List Loc), t.heap = H1 → s.vm.Alike t.vm → post r u → B u t → H.size ≤ H1.size → (∀ q : Nat, q < H.size → ¬ A1 q → H1[q]? = H[q]?) → va_S A0 H0 H1 locs1 → W p l e R s m args below meth c H1 locs1 (cells + mc) (slots + ms) Q (F0 m (pc + 3) ls (.long r :: rest))) : W p l e R s m args below meth c H locs cells slots Q (F0 m pc ls st0) := by
  intro T hT X
  rcases hr T hT X with ⟨v, st₀, t, T', L, h0, X', hL, e1, e2, ⟨⟨r, u, hv, hp, hb⟩, hF⟩, st⟩ | ⟨q, st₀, t, T', L, E, ce, h0, X', hL, e1, e2, ⟨u, hp, hb, hF⟩, hce, hcv, hcl, st⟩
  · cases hv
    obtain ⟨k1, k2, k3⟩ := vx_keep h0 e1 hS hA hf hL hF
    obtain ⟨t2, a1, b1⟩ := kk r u t T'.heap (locs ++ L) e1.symm (by rw [← e2]; exact X'.warmed.alike) hp hb k1 k2 k3 T' rfl X'
    exact ⟨t2, st t2 a1, b1⟩
  · obtain ⟨k1, k2, k3⟩ := vx_keep h0 e1 hS hAX hf hL hF
    obtain ⟨t2, a1, b1⟩ := kx E ce q u t T'.heap (locs ++ L) e1.symm (by rw [← e2]; exact X'.warmed.alike) hp hb k1 k2 k3 (by rw [e1]; exact hce) hcv hcl T' rfl X'
    exact ⟨t2, st.trans a1, b1⟩
theorem vx_callf {S SX : Type} {post : UInt32 → S → Prop} {px : SX → Prop} {B : S → State → Prop} {BX : String → SX → State → Prop} {AX : Nat → Prop} (hr : vx_Run p l e R s m args below meth c H locs cells slots mc ms (F0 m pc ls st0) rest (va_Qf post B A1 a) (vx_X px BX AX) free) (hS : va_S A0 H0 H locs) (hA : ∀ q, q < H.size → A1 q → A0 q) (hf : ∀ q, free q → A0 q) (hAX : ∀ q, q < H.size → AX q → A0 q)
    (kx : ∀ (E : String) (ce : Cell) (q9 : Addr) (u : SX) (t : State) (H1 : Heap) (locs1 : List Loc), t.heap = H1 → s.vm.Alike t.vm → px u → BX E u t → H.size ≤ H1.size → (∀ q : Nat, q < H.size → ¬ AX q → H1[q]? = H[q]?) → va_S A0 H0 H1 locs1 → H1[q9]? = some ce → ce.vm = .none → s.vm.findClass E = some ce.cls → vx_W p l e R s m args below meth c H1 locs1 (cells + mc) (slots + ms) Q (F0 m pc ls rest) q9)
    (kk : ∀ (r : UInt32) (u : S) (t : State) (H1 : Heap) (locs1 : List Loc), t.heap = H1 → s.vm.Alike t.vm → post r u → B u t → H.size ≤ H1.size → (∀ q : Nat, q < H.size → ¬ A1 q → H1[q]? = H[q]?) → va_S A0 H0 H1 locs1 → W p l e R s m args below meth c H1 locs1 (cells + mc) (slots + ms) Q (F0 m (pc + 3) ls (.float r :: rest))) : W p l e R s m args below meth c H locs cells slots Q (F0 m pc ls st0) := by
  intro T hT X
  rcases hr T hT X with ⟨v, st₀, t, T', L, h0, X', hL, e1, e2, ⟨⟨r, u, hv, hp, hb⟩, hF⟩, st⟩ | ⟨q, st₀, t, T', L, E, ce, h0, X', hL, e1, e2, ⟨u, hp, hb, hF⟩, hce, hcv, hcl, st⟩
  · cases hv
    obtain ⟨k1, k2, k3⟩ := vx_keep h0 e1 hS hA hf hL hF
    obtain ⟨t2, a1, b1⟩ := kk r u t T'.heap (locs ++ L) e1.symm (by rw [← e2]; exact X'.warmed.alike) hp hb k1 k2 k3 T' rfl X'
    exact ⟨t2, st t2 a1, b1⟩
  · obtain ⟨k1, k2, k3⟩ := vx_keep h0 e1 hS hAX hf hL hF
    obtain ⟨t2, a1, b1⟩ := kx E ce q u t T'.heap (locs ++ L) e1.symm (by rw [← e2]; exact X'.warmed.alike) hp hb k1 k2 k3 (by rw [e1]; exact hce) hcv hcl T' rfl X'
    exact ⟨t2, st.trans a1, b1⟩
theorem vx_calld {S SX : Type} {post : UInt64 → S → Prop} {px : SX → Prop} {B : S → State → Prop} {BX : String → SX → State → Prop} {AX : Nat → Prop} (hr : vx_Run p l e R s m args below meth c H locs cells slots mc ms (F0 m pc ls st0) rest (va_Qd post B A1 a) (vx_X px BX AX) free) (hS : va_S A0 H0 H locs) (hA : ∀ q, q < H.size → A1 q → A0 q) (hf : ∀ q, free q → A0 q) (hAX : ∀ q, q < H.size → AX q → A0 q)
    (kx : ∀ (E : String) (ce : Cell) (q9 : Addr) (u : SX) (t : State) (H1 : Heap) (locs1 : List Loc), t.heap = H1 → s.vm.Alike t.vm → px u → BX E u t → H.size ≤ H1.size → (∀ q : Nat, q < H.size → ¬ AX q → H1[q]? = H[q]?) → va_S A0 H0 H1 locs1 → H1[q9]? = some ce → ce.vm = .none → s.vm.findClass E = some ce.cls → vx_W p l e R s m args below meth c H1 locs1 (cells + mc) (slots + ms) Q (F0 m pc ls rest) q9)
    (kk : ∀ (r : UInt64) (u : S) (t : State) (H1 : Heap) (locs1 : List Loc), t.heap = H1 → s.vm.Alike t.vm → post r u → B u t → H.size ≤ H1.size → (∀ q : Nat, q < H.size → ¬ A1 q → H1[q]? = H[q]?) → va_S A0 H0 H1 locs1 → W p l e R s m args below meth c H1 locs1 (cells + mc) (slots + ms) Q (F0 m (pc + 3) ls (.double r :: rest))) : W p l e R s m args below meth c H locs cells slots Q (F0 m pc ls st0) := by
  intro T hT X
  rcases hr T hT X with ⟨v, st₀, t, T', L, h0, X', hL, e1, e2, ⟨⟨r, u, hv, hp, hb⟩, hF⟩, st⟩ | ⟨q, st₀, t, T', L, E, ce, h0, X', hL, e1, e2, ⟨u, hp, hb, hF⟩, hce, hcv, hcl, st⟩
  · cases hv
    obtain ⟨k1, k2, k3⟩ := vx_keep h0 e1 hS hA hf hL hF
    obtain ⟨t2, a1, b1⟩ := kk r u t T'.heap (locs ++ L) e1.symm (by rw [← e2]; exact X'.warmed.alike) hp hb k1 k2 k3 T' rfl X'
    exact ⟨t2, st t2 a1, b1⟩
  · obtain ⟨k1, k2, k3⟩ := vx_keep h0 e1 hS hAX hf hL hF
    obtain ⟨t2, a1, b1⟩ := kx E ce q u t T'.heap (locs ++ L) e1.symm (by rw [← e2]; exact X'.warmed.alike) hp hb k1 k2 k3 (by rw [e1]; exact hce) hcv hcl T' rfl X'
    exact ⟨t2, st.trans a1, b1⟩
theorem vx_callv {S SX : Type} {post : S → Prop} {px : SX → Prop} {B : S → State → Prop} {BX : String → SX → State → Prop} {AX : Nat → Prop} (hr : vx_Run p l e R s m args below meth c H locs cells slots mc ms (F0 m pc ls st0) rest (va_Qv post B A1 a) (vx_X px BX AX) free) (hS : va_S A0 H0 H locs) (hA : ∀ q, q < H.size → A1 q → A0 q) (hf : ∀ q, free q → A0 q) (hAX : ∀ q, q < H.size → AX q → A0 q)
    (kx : ∀ (E : String) (ce : Cell) (q9 : Addr) (u : SX) (t : State) (H1 : Heap) (locs1 : List Loc), t.heap = H1 → s.vm.Alike t.vm → px u → BX E u t → H.size ≤ H1.size → (∀ q : Nat, q < H.size → ¬ AX q → H1[q]? = H[q]?) → va_S A0 H0 H1 locs1 → H1[q9]? = some ce → ce.vm = .none → s.vm.findClass E = some ce.cls → vx_W p l e R s m args below meth c H1 locs1 (cells + mc) (slots + ms) Q (F0 m pc ls rest) q9)
    (kk : ∀ (u : S) (t : State) (H1 : Heap) (locs1 : List Loc), t.heap = H1 → s.vm.Alike t.vm → post u → B u t → H.size ≤ H1.size → (∀ q : Nat, q < H.size → ¬ A1 q → H1[q]? = H[q]?) → va_S A0 H0 H1 locs1 → W p l e R s m args below meth c H1 locs1 (cells + mc) (slots + ms) Q (F0 m (pc + 3) ls (rest))) : W p l e R s m args below meth c H locs cells slots Q (F0 m pc ls st0) := by
  intro T hT X
  rcases hr T hT X with ⟨v, st₀, t, T', L, h0, X', hL, e1, e2, ⟨⟨u, hv, hp, hb⟩, hF⟩, st⟩ | ⟨q, st₀, t, T', L, E, ce, h0, X', hL, e1, e2, ⟨u, hp, hb, hF⟩, hce, hcv, hcl, st⟩
  · cases hv
    obtain ⟨k1, k2, k3⟩ := vx_keep h0 e1 hS hA hf hL hF
    obtain ⟨t2, a1, b1⟩ := kk u t T'.heap (locs ++ L) e1.symm (by rw [← e2]; exact X'.warmed.alike) hp hb k1 k2 k3 T' rfl X'
    exact ⟨t2, st t2 a1, b1⟩
  · obtain ⟨k1, k2, k3⟩ := vx_keep h0 e1 hS hAX hf hL hF
    obtain ⟨t2, a1, b1⟩ := kx E ce q u t T'.heap (locs ++ L) e1.symm (by rw [← e2]; exact X'.warmed.alike) hp hb k1 k2 k3 (by rw [e1]; exact hce) hcv hcl T' rfl X'
    exact ⟨t2, st.trans a1, b1⟩
/-- caught by the row x of this method's table; the rows ahead don't take it -/
theorem vx_catch {own name : String} {E : String} {ce : Cell} {q : Addr} (hown : s.vm.findClass own = some m.cls) (pre : List ExceptionTableEntry) (x : ExceptionTableEntry) (suf : List ExceptionTableEntry) (hsplit : c.exceptionTable.toList = pre ++ x :: suf)
    (hpass : ∀ z ∈ pre, covers z pc = false ∨ (z.catchType ≠ 0 ∧ ∃ nm : String, (Cond.classLink own z.catchType nm).before args s = true ∧ va_Nc E nm s)) (hx : covers x pc = true) (h0 : x.catchType ≠ 0)
    (hlink : (Cond.classLink own x.catchType name).before args s = true) (hcast : (Cond.castable E name).before args s = true) (hcell : H[q]? = some ce) (hv : ce.vm = .none) (hcl : s.vm.findClass E = some ce.cls)
    (kk : W p l e R s m args below meth c H locs cells slots Q (F0 m x.handlerPc ls [.ref q])) : vx_W p l e R s m args below meth c H locs cells slots Q (F0 m pc ls rest) q := by
  intro T hT X
  have hpl : e.platform.magicAccessors = ({} : Platform).magicAccessors := by rw [X.admits.platform]
  obtain ⟨c3, c4, hc3, hc4, hasg⟩ := Cond.castable_spec hcast
  cases Option.some.inj (hc3.symm.trans hcl)
  obtain ⟨c5, hc5, hcl5⟩ := Cond.classLink_spec hown hlink e.platform hpl
  cases Option.some.inj (hc4.symm.trans hc5)
  obtain ⟨vm', X', st⟩ := X.thenCaughtThrough q (g := F0 m pc ls rest) rfl (Steps.refl _) (by rw [hT]; exact hcell) (by rw [hv]; rfl) (by obtain ⟨k9, h9, -⟩ := Vm.findClass_spec hcl; exact ⟨k9, h9⟩) pre x suf hsplit
    (fun z hz => by
      rcases hpass z hz with h | ⟨hz0, nm, hl1, hn1⟩
      · exact Or.inl h
      · obtain ⟨c6, hc6, hcl6⟩ := Cond.classLink_spec hown hl1 e.platform hpl
        obtain ⟨a8, b8, h1, h2, h3⟩ := hn1
        cases Option.some.inj (h1.symm.trans hcl)
        cases Option.some.inj (h2.symm.trans hc6)
        exact Or.inr ⟨hz0, _, hcl6, h3⟩) hx (Or.inr ⟨h0, c4, hcl5, hasg⟩)
  obtain ⟨t, a1, b1⟩ := kk (T.setVm vm') hT X'
  exact ⟨t, st.trans a1, b1⟩
end Rows
section Ends
variable {p : Program} {l : Launch} {e : Env} {R : Room} {s : State} {m : MethodId} {args : Array Value} {below : List Frame} {meth : Method} {c : Code} {H : Heap} {locs : List Loc} {cells slots : Nat} {Q : State → Prop}
variable {mc ms : Nat} {free : Addr → Prop} {A0 A1 : Nat → Prop} {H0 : Heap} {a : Array Value} {ls : Array Slot} {st0 rest : List Value}
variable {Qc : Array Value → State → Outcome → State → Prop} {XC : String → State → State → Prop}
/-- what a body that may throw owes at its end -/
def vx_MQ (below : List Frame) (Qc : Array Value → State → Outcome → State → Prop) (XC : String → State → State → Prop) (a : Array Value) (s : State) (mc ms : Nat) (free : Addr → Prop) : State → Prop := fun t =>
  ∃ o, t.status = .running ∧ Ended t below o ∧ vx_Q Qc XC mc ms free a s o t
theorem vx_ret {g : JFrame} {mc ms : Nat} (k : W p l e R s m args below meth c H locs cells slots (MQ below Qc args s mc ms free) g) : W p l e R s m args below meth c H locs cells slots (vx_MQ below Qc XC args s mc ms free) g := by
  intro T hT X
  obtain ⟨t, a1, o, b1, b2, b3, b4⟩ := k T hT X
  exact ⟨t, a1, o, b1, b2, Or.inl ⟨b3, b4⟩⟩
/-- not caught here: it goes on to the caller -/
theorem vx_widen {g : JFrame} {q : Addr} {k n : Nat} (h1 : cells ≤ k) (h2 : slots ≤ n) (kk : vx_W p l e R s m args below meth c H locs k n Q g q) : vx_W p l e R s m args below meth c H locs cells slots Q g q := fun T hT X => kk T hT (stand_widen X h1 h2)
theorem vx_out {pc : Nat} {E : String} {ce : Cell} {q : Addr} {mc ms : Nat} (hout : ∀ x ∈ c.exceptionTable.toList, covers x pc = false) (hlocks : meth.locks = false) (hcell : H[q]? = some ce) (hv : ce.vm = .none) (hcl : s.vm.findClass E = some ce.cls)
    (hx : ∀ t : State, t.heap = H → s.vm.Alike t.vm → XC E s t) (hf : ∀ z ∈ locs, free z.base) (hc : cells ≤ mc) (hs : slots ≤ ms) :
    vx_W p l e R s m args below meth c H locs cells slots (vx_MQ below Qc XC args s mc ms free) (F0 m pc ls rest) q := by
  intro T hT X
  obtain ⟨st1, hrun, hend, hW, hsm⟩ := X.leaveThrown q (g := F0 m pc ls rest) rfl rfl rfl hout hlocks
  have hcell9 : (T.setFrames (.throwing q :: below)).heap[q]? = some ce := by
    show T.heap[q]? = some ce
    rw [hT]; exact hcell
  exact ⟨_, st1, .threw q, hrun, hend, Or.inr ⟨q, rfl, E, ce, locs, hx _ hT hW.alike, hcell9, hv, hcl, hW, hsm.mono hc hs, hf⟩⟩
theorem vx_frame {U : State} {k n : Nat} (h : s.sameButNew ({ U with vm := s.vm } : State) locs k n) : s.heap.size ≤ U.heap.size ∧ ∀ q : Nat, q < s.heap.size → (∀ z ∈ locs, z.base ≠ q) → U.heap[q]? = s.heap[q]? := by
  obtain ⟨-, h2, -, -, -, h6⟩ := h
  refine ⟨h2, fun q hq hz => ?_⟩
  obtain ⟨c9, e1, e2, e3, e4⟩ := h6 q _ (Array.getElem?_eq_getElem hq)
  have hs : c9.slots = (s.heap[q]).slots := Array.ext_getElem? fun i => e4 i fun hm => hz _ hm rfl
  have h9 : c9 = s.heap[q] := by
    rw [hs] at e2
    exact e2
  have e5 : U.heap[q]? = some c9 := e1
  rw [e5, h9, Array.getElem?_eq_getElem hq]
/-- the words of a throw but the four that speak of the heap -/
def vx_no (w : Cond) : Bool := decide (w ≠ .isRef (.static Bundle.tN "UNASSIGNED_STACK" Bundle.steD)) && decide (w ≠ .isRef (.static Bundle.tN "SUPPRESSED_SENTINEL" Bundle.listD)) && decide (w ≠ .laysStatic Bundle.tN "UNASSIGNED_STACK" Bundle.steD) && decide (w ≠ .laysStatic Bundle.tN "SUPPRESSED_SENTINEL" Bundle.listD)
def vx_at0 (own : String) (ic : Nat) (X : String) (names : List String) : List Cond := (Bundle.ownAtoms0 own ic X names).filter vx_no
def vx_atS (own : String) (ic : Nat) (X : String) (names : List String) : List Cond := (Bundle.ownAtoms own ic X names).filter vx_no
/-- a word that the tables alone decide, or a good one -/
def vx_ot (w : Cond) : Bool := w.onTables || goodWord w
theorem vx_ot_at {args a' : Array Value} {s U : State} {w : Cond} (hW : s.WarmedH U.vm) (hvm : s.vm = U.vm) (hg : vx_ot w = true) (h : w.before args s = true) : w.before a' U = true := by
  simp only [vx_ot, Bool.or_eq_true] at hg
  rcases hg with hg | hg
  · exact va_tabs hg hvm h
  · exact word_at hW (good_of_word hg) h
/-- a list's words: the good ones out of the method's own list, the others by premises of their own -/
theorem vx_hat {args : Array Value} {s : State} {L B : List Cond} (h1 : ∀ w ∈ L.filter goodWord, w.before args s = true) (h2 : ∀ w ∈ L.filter (fun w => !goodWord w), w ∈ B) (h3 : ∀ w ∈ B, w.before args s = true) : ∀ w ∈ L, w.before args s = true := by
  intro w hw
  by_cases g : goodWord w = true
  · exact h1 w (List.mem_filter.mpr ⟨hw, g⟩)
  · refine h3 w (h2 w (List.mem_filter.mpr ⟨hw, ?_⟩))
    show (!goodWord w) = true
    cases hgw : goodWord w
    · rfl
    · exact absurd hgw g
theorem vx_c {args : Array Value} {s : State} {w : Cond} {B : List Cond} (h : w.before args s = true) (t : ∀ w ∈ B, w.before args s = true) : ∀ w' ∈ w :: B, w'.before args s = true := fun w' h' => (List.mem_cons.mp h').elim (fun e => by rw [e]; exact h) (t w')
theorem vx_n {args : Array Value} {s : State} : ∀ w ∈ ([] : List Cond), w.before args s = true := fun _ h => nomatch h
theorem vx_own {args : Array Value} {s : State} {L : List Cond} (h1 : ∀ w ∈ L.filter vx_no, w.before args s = true)
    (hU : (Cond.isRef (.static Bundle.tN "UNASSIGNED_STACK" Bundle.steD)).before args s = true) (hN : (Cond.isRef (.static Bundle.tN "SUPPRESSED_SENTINEL" Bundle.listD)).before args s = true)
    (lU : (Cond.laysStatic Bundle.tN "UNASSIGNED_STACK" Bundle.steD).before args s = true) (lN : (Cond.laysStatic Bundle.tN "SUPPRESSED_SENTINEL" Bundle.listD).before args s = true) : ∀ w ∈ L, w.before args s = true := by
  intro w hw
  by_cases e1 : w = .isRef (.static Bundle.tN "UNASSIGNED_STACK" Bundle.steD)
  · rw [e1]; exact hU
  · by_cases e2 : w = .isRef (.static Bundle.tN "SUPPRESSED_SENTINEL" Bundle.listD)
    · rw [e2]; exact hN
    · by_cases e3 : w = .laysStatic Bundle.tN "UNASSIGNED_STACK" Bundle.steD
      · rw [e3]; exact lU
      · by_cases e4 : w = .laysStatic Bundle.tN "SUPPRESSED_SENTINEL" Bundle.listD
        · rw [e4]; exact lN
        · exact h1 w (List.mem_filter.mpr ⟨hw, by unfold vx_no; rw [decide_eq_true e1, decide_eq_true e2, decide_eq_true e3, decide_eq_true e4]; rfl⟩)
/-- where a static field lies, its class's statics cell in H -/
def vx_L (C n d : String) (A : Nat → Prop) (U : State) (H : Heap) : Prop := ∃ (c : ClassId) (k : Class) (i : Nat) (f : Field) (a : Nat) (cell : Cell), U.vm.findClass C = some c ∧ U.fieldFound? C n d = some (c, k, i, f) ∧ f.isStatic = true ∧ k.statics = some a ∧ H[a]? = some cell ∧ cell.vm.isStatics = true ∧ cell.cls = c ∧ f.slot < cell.slots.size ∧ k.staticTypes[f.slot]? = some f.type ∧ ¬ A a
theorem vx_L.moved {C n d : String} {A : Nat → Prop} {u U : State} {H : Heap} (hvm : u.vm.Alike U.vm) (h : vx_L C n d A u H) : vx_L C n d A U H := by
  obtain ⟨c, k, i, f, a, cell, h1, h2, h3, h4, h5, h6, h7, h8, h9, h10⟩ := h
  obtain ⟨k', hi', he⟩ := State.fieldFound?_setVm hvm h2
  exact ⟨c, k', i, f, a, cell, by rw [hvm.findClass]; exact h1, hi', h3, by rw [he]; exact h4, h5, h6, h7, h8, by rw [he]; exact h9, h10⟩
theorem vx_L.kept {C n d : String} {A : Nat → Prop} {U : State} {H H1 : Heap} (h : vx_L C n d A U H) (hq : ∀ a : Nat, a < H.size → ¬ A a → H1[a]? = H[a]?) : vx_L C n d A U H1 := by
  obtain ⟨c, k, i, f, a, cell, h1, h2, h3, h4, h5, h6, h7, h8, h9, h10⟩ := h
  exact ⟨c, k, i, f, a, cell, h1, h2, h3, h4, by rw [hq a (Array.getElem?_eq_some_iff.mp h5).1 h10]; exact h5, h6, h7, h8, h9, h10⟩
theorem vx_L.narrow {C n d : String} {A B : Nat → Prop} {U : State} {H : Heap} (h : vx_L C n d A U H) (hAB : ∀ q, B q → A q) : vx_L C n d B U H := by
  obtain ⟨c, k, i, f, a, cell, h1, h2, h3, h4, h5, h6, h7, h8, h9, h10⟩ := h
  exact ⟨c, k, i, f, a, cell, h1, h2, h3, h4, h5, h6, h7, h8, h9, fun z => h10 (hAB _ z)⟩
theorem vx_L.word {C n d : String} {A : Nat → Prop} {s : State} {args : Array Value} (h : vx_L C n d A s s.heap) : (Cond.laysStatic C n d).before args s = true := by
  obtain ⟨c, k, i, f, a, cell, h1, h2, h3, h4, h5, h6, h7, h8, h9, -⟩ := h
  show (Cond.laysStatic C n d).holds args s none s [] = true
  exact Cond.laysStatic_of h1 h2 h3 h4 h5 h6 h7 h8 h9
/-- .. and what it holds: null or some reference -/
def vx_Zq (C n d : String) (A : Nat → Prop) (U : State) (H : Heap) : Prop := va_Zq C n d A U H ∧ vx_L C n d A U H
theorem vx_Zq.moved {C n d : String} {A : Nat → Prop} {u U : State} {H : Heap} (hvm : u.vm.Alike U.vm) (h : vx_Zq C n d A u H) : vx_Zq C n d A U H := ⟨va_Zq.moved hvm h.1, vx_L.moved hvm h.2⟩
theorem vx_Zq.kept {C n d : String} {A : Nat → Prop} {U : State} {H H1 : Heap} (h : vx_Zq C n d A U H) (hq : ∀ a : Nat, a < H.size → ¬ A a → H1[a]? = H[a]?) : vx_Zq C n d A U H1 := ⟨va_Zq.kept h.1 hq, vx_L.kept h.2 hq⟩
theorem vx_Zq.narrow {C n d : String} {A B : Nat → Prop} {U : State} {H : Heap} (h : vx_Zq C n d A U H) (hAB : ∀ q, B q → A q) : vx_Zq C n d B U H := ⟨va_Zq.narrow h.1 hAB, vx_L.narrow h.2 hAB⟩
theorem vx_Zqof {args : Array Value} {s : State} {C n d : String} {A : Nat → Prop} (hl : (Cond.laysStatic C n d).before args s = true) (hini : (Cond.initialized C).before args s = true) (h : (Cond.isRef (.static C n d)).before args s = true) (hA : ∀ a : Nat, a < s.heap.size → ¬ A a) : vx_Zq C n d A s s.heap := by
  refine ⟨va_Zqof hl hini h hA, ?_⟩
  obtain ⟨c, k, i, f, a, cell, h1, h2, h3, h4, h5, h6, h7, h8, h9⟩ := Cond.laysStatic_spec hl
  exact ⟨c, k, i, f, a, cell, h1, h2, h3, h4, h5, h6, h7, h8, h9, hA a (Array.getElem?_eq_some_iff.mp h5).1⟩
theorem vx_isRef {C n d : String} {v : Value} {A : Nat → Prop} {s : State} {args : Array Value} (h : va_Z C n d v A s s.heap) (hv : v.isRef = true) : (Cond.isRef (.static C n d)).before args s = true := by
  obtain ⟨cf, kf, fi, f, a, cell, h1, h2, h3, h4, h5, h6, h7, -⟩ := h
  have he : (Term.static C n d).eval args s none [] s = some v := by
    simp [Term.eval, State.fieldNamed?, h1, h2, h4, h5, h6, h7]
  simp only [Cond.before, Cond.holds, Cond.value, he]
  cases v <;> simp_all [Value.isRef]
theorem vx_isRefq {C n d : String} {A : Nat → Prop} {s : State} {args : Array Value} (h : va_Zq C n d A s s.heap) : (Cond.isRef (.static C n d)).before args s = true := by
  rcases h with h | ⟨t, h⟩
  · exact vx_isRef h rfl
  · exact vx_isRef h rfl
/-- the same frame, seen from here: as if the method were called anew in this heap -/
theorem vx_rebase {T : State} (X : Stand p l e R s m args below meth c T locs cells slots) {R' : Room} (hf : R'.frames ≤ R.frames) (hl : R'.locals ≤ R.locals) (hc : cells + R'.cells ≤ R.cells) (hs : slots + R'.slots ≤ R.slots) :
    Stand p l e R' ((T.setVm s.vm).setFrames (.invoking m args :: below)) m args below meth c T [] 0 0 := by
  have htop : (T.setVm s.vm).topJava?.isSome := X.here.top
  have hF : ((T.setVm s.vm).setFrames (.invoking m args :: below)).frames = .invoking m args :: below := State.frames_setFrames _ (State.cur_lt_of_top htop)
  obtain ⟨g₀, hg0⟩ := Option.isSome_iff_exists.mp htop
  obtain ⟨r, hr⟩ := State.topJava?_eq_some.mp hg0
  have hl9 : e.platform.stackLimits (T.setVm s.vm).me = e.platform.stackLimits s.me := X.limits
  have hb9 : (T.setVm s.vm).me.stackBytes = s.me.stackBytes := X.bytes
  refine ⟨X.admits, X.cas, X.clock, hF, ?_, X.hears, X.method, X.code, X.here, X.tail, X.warmed, ?_, ?_, ?_⟩
  · have h := X.room
    have hU : ((T.setVm s.vm).setFrames (.invoking m args :: below)).localsInUse = s.localsInUse := by
      rw [State.localsInUse_invoking hF (meth := meth) (c := c) X.method X.code, State.localsInUse_invoking X.frames X.method X.code]
    simp only [State.hasRoom, Bool.and_eq_true, decide_eq_true_eq] at h ⊢
    obtain ⟨⟨⟨⟨h1, h2, h3, h4, h5, h6⟩, h7⟩, h8⟩, h9⟩ := h
    rw [X.frames, List.length_cons] at h2 h3
    have q1 := X.heapSize
    have q2 := X.used
    simp only [hF, hU, List.length_cons, State.stackLimits_setFrames, State.stackBytes_setFrames, hl9, hb9]
    refine ⟨⟨⟨⟨by omega, by omega, by omega, by omega, by omega, h6⟩, ?_⟩, ?_⟩, X.book⟩
    · show T.heap.size + R'.cells ≤ e.platform.maxCells
      omega
    · show T.slotsUsed + R'.slots ≤ e.platform.maxSlots
      omega
  · rw [State.stackLimits_setFrames]; rfl
  · rw [State.stackBytes_setFrames]; rfl
  · refine ⟨?_, Nat.le_refl _, Nat.le_refl _, ?_, ?_, fun a c9 h9 => ⟨c9, h9, rfl, rfl, fun _ _ => rfl⟩⟩
    · obtain ⟨t, ht, -⟩ := State.frames_cons hr
      show T.setVm s.vm = { ((T.setVm s.vm).setFrames (.invoking m args :: below)).setFrames (T.setVm s.vm).frames with heap := T.heap, slotsUsed := T.slotsUsed }
      rw [State.setFrames_setFrames, State.setFrames_self ht]
      rfl
    · show T.slotsUsed = T.slotsUsed + ((T.heap.toList.drop T.heap.size).map (·.slots.size)).sum
      rw [List.drop_eq_nil_of_le (Nat.le_of_eq Array.length_toList)]
      rfl
    · show ((T.heap.toList.drop T.heap.size).map (·.slots.size)).sum ≤ 0
      rw [List.drop_eq_nil_of_le (Nat.le_of_eq Array.length_toList)]
      exact Nat.le_refl _
/-- 'throw new E()': new; dup; invokespecial; athrow -/
theorem vx_throw0 {cc : ByteArray} {pc : Nat} (hexec : p.tables.exec = Jvm.exec) (hb : c.code = cc) (hl : l.stackTraces = false) {own cls : String} {names : List String} {ik ic mc ms : Nat} {A : Nat → Prop}
    (hown : s.vm.findClass own = some m.cls) (hcls : Bundle.fit cls = true) (hnames : ∀ n ∈ names, Bundle.fit n = true)
    (hk : (Cond.classLink own ik cls).before args s = true) (hini : (Cond.initialized cls).before args s = true) (hat : ∀ w ∈ vx_at0 own ic cls names, w.before args s = true)
    (hgood : ∀ w ∈ Cond.classLink own ik cls :: Cond.initialized cls :: vx_at0 own ic cls names, vx_ot w = true)
    (hU : vx_Zq Bundle.tN "UNASSIGNED_STACK" Bundle.steD A s s.heap) (hN : vx_Zq Bundle.tN "SUPPRESSED_SENTINEL" Bundle.listD A s s.heap) (hS : va_S A s.heap H locs) (hsize : ls.size = c.maxLocals)
    (d0 : decode cc pc = .ok (.new ik, 3)) (d3 : decode cc (pc + 3) = .ok (.dup, 1)) (d4 : decode cc (pc + 4) = .ok (.invokespecial ic, 3)) (d7 : decode cc (pc + 7) = .ok (.athrow, 1))
    (hout : ∀ x ∈ c.exceptionTable.toList, covers x (pc + 7) = false)
    (hRframes : names.length + 3 < R.frames) (hRlocals : (rest.map fun v => v.category).sum + (13 * (names.length + 1) + 42) ≤ R.locals) (hRcells : cells + 1 ≤ R.cells) (hRslots : slots + 6 ≤ R.slots) (hlocks : meth.locks = false)
    (hx : ∀ t : State, s.vm.Alike t.vm → H.size ≤ t.heap.size → (∀ q : Nat, q < H.size → t.heap[q]? = H[q]?) → XC cls s t)
    (hf : ∀ z ∈ locs, free z.base) (hc : cells + 1 ≤ mc) (hs : slots + 6 ≤ ms) :
    W p l e R s m args below meth c H locs cells slots (vx_MQ below Qc XC args s mc ms free) (F0 m pc ls rest) := by
  intro T hT X
  have htr : e.platform.stackTraces = false := (show e.platform.stackTraces = l.stackTraces by rw [X.admits.platform]).trans hl
  have Y := vx_rebase X (R' := { frames := R.frames, locals := R.locals, cells := 1, slots := 6 }) (Nat.le_refl _) (Nat.le_refl _) hRcells hRslots
  obtain ⟨s', hA⟩ : ∃ z, z = (T.setVm s.vm).setFrames (.invoking m args :: below) := ⟨_, rfl⟩
  rw [← hA] at Y
  have hvm : s'.vm = s.vm := by rw [hA]; rfl
  have hhp : s'.heap = H := by rw [hA]; exact hT
  have hW0 : s.WarmedH s'.vm := by rw [hvm]; exact State.WarmedH.refl s
  have hat' : ∀ w ∈ vx_at0 own ic cls names, w.before args s' = true := fun w hw => vx_ot_at hW0 hvm.symm (hgood w (List.mem_cons_of_mem _ (List.mem_cons_of_mem _ hw))) (hat w hw)
  have hk' : (Cond.classLink own ik cls).before args s' = true := vx_ot_at hW0 hvm.symm (hgood _ List.mem_cons_self) hk
  have hini' : (Cond.initialized cls).before args s' = true := vx_ot_at hW0 hvm.symm (hgood _ (List.mem_cons_of_mem _ List.mem_cons_self)) hini
  have hU' : vx_Zq Bundle.tN "UNASSIGNED_STACK" Bundle.steD A s' s'.heap := by rw [hhp]; exact vx_Zq.moved hW0.alike (hU.kept hS.2.1)
  have hN' : vx_Zq Bundle.tN "SUPPRESSED_SENTINEL" Bundle.listD A s' s'.heap := by rw [hhp]; exact vx_Zq.moved hW0.alike (hN.kept hS.2.1)
  have h : ∀ w ∈ Bundle.ownAtoms0 own ic cls names, w.before args s' = true := vx_own hat' (vx_isRefq hU'.1) (vx_isRefq hN'.1) hU'.2.word hN'.2.word
  have hown' : s'.vm.findClass own = some m.cls := by rw [hvm]; exact hown
  have hins : (Cond.instantiable cls 6).before args s' = true := h _ (by simp [Bundle.ownAtoms0])
  obtain ⟨vm₁, cX, kX, hfX, hkX, -, -, X₁, st1⟩ := Y.newCold hexec (own := own) (C := cls) (index := ik) (n := 6) hown' hk' hins hini'
    (g := F0 m pc ls rest) rfl (by rw [hb]; exact d0) (Nat.le_refl _) (Nat.le_refl _)
  generalize hT1 : (T.setVm vm₁).pushCell { cls := cX, slots := kX.instanceTypes.map defaultValue, vm := .none } = T1 at X₁ st1
  have hcat : (Value.ref T.heap.size).category = 1 := rfl
  have hcellA : T1.heap[T.heap.size]? = some (freshCell cX kX) := by rw [← hT1]; exact State.heap_pushCell_size _ _
  have d3' : decode c.code (pc + 3) = .ok (.dup, 1) := by rw [hb]; exact d3
  obtain ⟨U, hsteps, hrun, hend, hW, hsame, ce, hce, hO⟩ := X₁.ctorThrow0 hexec htr (own := own) (cls := cls) (names := names) (ic := ic) hown' hcls hnames h (fun x hx => nomatch hx) hfX hkX hcellA (by rw [hhp, hT]; exact Nat.le_refl _)
    (g := { method := m, pc := pc + 4, locals := ls, stack := .ref T.heap.size :: .ref T.heap.size :: rest, locked := none }) rfl hsize rfl rfl (rest := rest) rfl
    (by rw [hb]; exact d4) (by rw [hb]; exact d7) hout hRframes (by simp only [List.map_cons, List.sum_cons, hcat]; omega) hlocks
  obtain ⟨f1, f2⟩ := vx_frame hsame
  rw [hhp] at f1 f2
  have hWs : s.WarmedH U.vm := State.WarmedH.trans hW0 hW
  have hcl : s.vm.findClass cls = some ce.cls := by
    have h9 := hO.cls
    rw [hvm] at h9
    exact h9
  have hall : s.sameButNew ({ U with vm := s.vm } : State) locs mc ms := by
    subst hA
    obtain ⟨e1, e2⟩ := hsame
    rw [State.setFrames_setFrames] at e1
    have h2 : (T.setVm s.vm).sameButNew ({ U with vm := s.vm } : State) [] (0 + 1) (0 + 6) := ⟨e1, e2⟩
    have h3 := X.same.trans h2
    rw [List.append_nil] at h3
    exact h3.mono hc hs
  refine ⟨U, ?_, .threw T.heap.size, hrun, hend, Or.inr ⟨T.heap.size, rfl, cls, ce, locs, hx U hWs.alike f1 (fun q hq => f2 q hq (fun z hz => nomatch hz)), hce, hO.vm, hcl, hWs, hall, hf⟩⟩
  refine st1 _ ?_
  show Steps p.tables e below (T1.setTop { method := m, pc := pc + 3, locals := ls, stack := .ref T.heap.size :: rest, locked := none }) _
  jvm_step X₁.here [X₁.here.top, hexec, d3', Value.category]
  exact hsteps
/-- 'throw new E("text")': new; dup; ldc; invokespecial; athrow -/
theorem vx_throwS {cc : ByteArray} {pc : Nat} (hexec : p.tables.exec = Jvm.exec) (hb : c.code = cc) (hl : l.stackTraces = false) {own cls text : String} {names : List String} {ik is ic mc ms sa : Nat} {A : Nat → Prop}
    (hown : s.vm.findClass own = some m.cls) (hcls : Bundle.fit cls = true) (hnames : ∀ n ∈ names, Bundle.fit n = true)
    (hk : (Cond.classLink own ik cls).before args s = true) (hini : (Cond.initialized cls).before args s = true) (hstr : vk_R own is text sa s) (hat : ∀ w ∈ vx_atS own ic cls names, w.before args s = true)
    (hgood : ∀ w ∈ Cond.classLink own ik cls :: Cond.initialized cls :: vx_atS own ic cls names, vx_ot w = true)
    (hU : vx_Zq Bundle.tN "UNASSIGNED_STACK" Bundle.steD A s s.heap) (hN : vx_Zq Bundle.tN "SUPPRESSED_SENTINEL" Bundle.listD A s s.heap) (hS : va_S A s.heap H locs) (hsize : ls.size = c.maxLocals)
    (d0 : decode cc pc = .ok (.new ik, 3)) (d3 : decode cc (pc + 3) = .ok (.dup, 1)) (d4 : decode cc (pc + 4) = .ok (.ldc is, 2)) (d6 : decode cc (pc + 6) = .ok (.invokespecial ic, 3)) (d9 : decode cc (pc + 9) = .ok (.athrow, 1))
    (hout : ∀ x ∈ c.exceptionTable.toList, covers x (pc + 9) = false)
    (hRframes : names.length + 3 < R.frames) (hRlocals : (rest.map fun v => v.category).sum + (13 * (names.length + 1) + 43) ≤ R.locals) (hRcells : cells + 1 ≤ R.cells) (hRslots : slots + 6 ≤ R.slots) (hlocks : meth.locks = false)
    (hx : ∀ t : State, s.vm.Alike t.vm → H.size ≤ t.heap.size → (∀ q : Nat, q < H.size → t.heap[q]? = H[q]?) → XC cls s t)
    (hf : ∀ z ∈ locs, free z.base) (hc : cells + 1 ≤ mc) (hs : slots + 6 ≤ ms) :
    W p l e R s m args below meth c H locs cells slots (vx_MQ below Qc XC args s mc ms free) (F0 m pc ls rest) := by
  intro T hT X
  have htr : e.platform.stackTraces = false := (show e.platform.stackTraces = l.stackTraces by rw [X.admits.platform]).trans hl
  have Y := vx_rebase X (R' := { frames := R.frames, locals := R.locals, cells := 1, slots := 6 }) (Nat.le_refl _) (Nat.le_refl _) hRcells hRslots
  obtain ⟨s', hA⟩ : ∃ z, z = (T.setVm s.vm).setFrames (.invoking m args :: below) := ⟨_, rfl⟩
  rw [← hA] at Y
  have hvm : s'.vm = s.vm := by rw [hA]; rfl
  have hhp : s'.heap = H := by rw [hA]; exact hT
  have hW0 : s.WarmedH s'.vm := by rw [hvm]; exact State.WarmedH.refl s
  have hat' : ∀ w ∈ vx_atS own ic cls names, w.before args s' = true := fun w hw => vx_ot_at hW0 hvm.symm (hgood w (List.mem_cons_of_mem _ (List.mem_cons_of_mem _ hw))) (hat w hw)
  have hk' : (Cond.classLink own ik cls).before args s' = true := vx_ot_at hW0 hvm.symm (hgood _ List.mem_cons_self) hk
  have hini' : (Cond.initialized cls).before args s' = true := vx_ot_at hW0 hvm.symm (hgood _ (List.mem_cons_of_mem _ List.mem_cons_self)) hini
  have hU' : vx_Zq Bundle.tN "UNASSIGNED_STACK" Bundle.steD A s' s'.heap := by rw [hhp]; exact vx_Zq.moved hW0.alike (hU.kept hS.2.1)
  have hN' : vx_Zq Bundle.tN "SUPPRESSED_SENTINEL" Bundle.listD A s' s'.heap := by rw [hhp]; exact vx_Zq.moved hW0.alike (hN.kept hS.2.1)
  have h : ∀ w ∈ Bundle.ownAtoms own ic cls names, w.before args s' = true := vx_own hat' (vx_isRefq hU'.1) (vx_isRefq hN'.1) hU'.2.word hN'.2.word
  have hown' : s'.vm.findClass own = some m.cls := by rw [hvm]; exact hown
  have hins : (Cond.instantiable cls 6).before args s' = true := h _ (by simp [Bundle.ownAtoms])
  obtain ⟨vm₁, cX, kX, hfX, hkX, -, -, X₁, st1⟩ := Y.newCold hexec (own := own) (C := cls) (index := ik) (n := 6) hown' hk' hins hini'
    (g := F0 m pc ls rest) rfl (by rw [hb]; exact d0) (Nat.le_refl _) (Nat.le_refl _)
  generalize hT1 : (T.setVm vm₁).pushCell { cls := cX, slots := kX.instanceTypes.map defaultValue, vm := .none } = T1 at X₁ st1
  have hcat : (Value.ref T.heap.size).category = 1 := rfl
  have hcellA : T1.heap[T.heap.size]? = some (freshCell cX kX) := by rw [← hT1]; exact State.heap_pushCell_size _ _
  have d3' : decode c.code (pc + 3) = .ok (.dup, 1) := by rw [hb]; exact d3
  have d4' : decode c.code (pc + 4) = .ok (.ldc is, 2) := by rw [hb]; exact d4
  have hstr' : vk_R own is text sa s' := vk_R.warm hW0 hstr
  obtain ⟨U, hsteps, hrun, hend, hW, hsame, ce, hce, hO⟩ := X₁.ctorThrowS hexec htr (own := own) (cls := cls) (names := names) (ic := ic) hown' hcls hnames h (fun x hx => nomatch hx) hfX hkX hcellA (by rw [hhp, hT]; exact Nat.le_refl _) (msg := .ref sa) rfl
    (g := { method := m, pc := pc + 6, locals := ls, stack := .ref sa :: .ref T.heap.size :: .ref T.heap.size :: rest, locked := none }) rfl hsize rfl rfl (rest := rest) rfl
    (by rw [hb]; exact d6) (by rw [hb]; exact d9) hout hRframes (by simp only [List.map_cons, List.sum_cons, hcat]; omega) hlocks
  obtain ⟨f1, f2⟩ := vx_frame hsame
  rw [hhp] at f1 f2
  have hWs : s.WarmedH U.vm := State.WarmedH.trans hW0 hW
  have hcl : s.vm.findClass cls = some ce.cls := by
    have h9 := hO.cls
    rw [hvm] at h9
    exact h9
  have hall : s.sameButNew ({ U with vm := s.vm } : State) locs mc ms := by
    subst hA
    obtain ⟨e1, e2⟩ := hsame
    rw [State.setFrames_setFrames] at e1
    have h2 : (T.setVm s.vm).sameButNew ({ U with vm := s.vm } : State) [] (0 + 1) (0 + 6) := ⟨e1, e2⟩
    have h3 := X.same.trans h2
    rw [List.append_nil] at h3
    exact h3.mono hc hs
  refine ⟨U, ?_, .threw T.heap.size, hrun, hend, Or.inr ⟨T.heap.size, rfl, cls, ce, locs, hx U hWs.alike f1 (fun q hq => f2 q hq (fun z hz => nomatch hz)), hce, hO.vm, hcl, hWs, hall, hf⟩⟩
  refine st1 _ ?_
  show Steps p.tables e below (T1.setTop { method := m, pc := pc + 3, locals := ls, stack := .ref T.heap.size :: rest, locked := none }) _
  jvm_step X₁.here [X₁.here.top, hexec, d3', Value.category]
  exact X₁.ldcString hexec (own := own) (text := text) (index := is) (a := sa) hown' hstr'.1 hstr'.2
    (g := { method := m, pc := pc + 4, locals := ls, stack := .ref T.heap.size :: .ref T.heap.size :: rest, locked := none }) rfl d4' _ hsteps
/-- 'throw new E("text")', the text by a wide index -/
theorem vx_throwSW {cc : ByteArray} {pc : Nat} (hexec : p.tables.exec = Jvm.exec) (hb : c.code = cc) (hl : l.stackTraces = false) {own cls text : String} {names : List String} {ik is ic mc ms sa : Nat} {A : Nat → Prop}
    (hown : s.vm.findClass own = some m.cls) (hcls : Bundle.fit cls = true) (hnames : ∀ n ∈ names, Bundle.fit n = true)
    (hk : (Cond.classLink own ik cls).before args s = true) (hini : (Cond.initialized cls).before args s = true) (hstr : vk_R own is text sa s) (hat : ∀ w ∈ vx_atS own ic cls names, w.before args s = true)
    (hgood : ∀ w ∈ Cond.classLink own ik cls :: Cond.initialized cls :: vx_atS own ic cls names, vx_ot w = true)
    (hU : vx_Zq Bundle.tN "UNASSIGNED_STACK" Bundle.steD A s s.heap) (hN : vx_Zq Bundle.tN "SUPPRESSED_SENTINEL" Bundle.listD A s s.heap) (hS : va_S A s.heap H locs) (hsize : ls.size = c.maxLocals)
    (d0 : decode cc pc = .ok (.new ik, 3)) (d3 : decode cc (pc + 3) = .ok (.dup, 1)) (d4 : decode cc (pc + 4) = .ok (.ldc_w is, 3)) (d7 : decode cc (pc + 7) = .ok (.invokespecial ic, 3)) (d10 : decode cc (pc + 10) = .ok (.athrow, 1))
    (hout : ∀ x ∈ c.exceptionTable.toList, covers x (pc + 10) = false)
    (hRframes : names.length + 3 < R.frames) (hRlocals : (rest.map fun v => v.category).sum + (13 * (names.length + 1) + 43) ≤ R.locals) (hRcells : cells + 1 ≤ R.cells) (hRslots : slots + 6 ≤ R.slots) (hlocks : meth.locks = false)
    (hx : ∀ t : State, s.vm.Alike t.vm → H.size ≤ t.heap.size → (∀ q : Nat, q < H.size → t.heap[q]? = H[q]?) → XC cls s t)
    (hf : ∀ z ∈ locs, free z.base) (hc : cells + 1 ≤ mc) (hs : slots + 6 ≤ ms) :
    W p l e R s m args below meth c H locs cells slots (vx_MQ below Qc XC args s mc ms free) (F0 m pc ls rest) := by
  intro T hT X
  have htr : e.platform.stackTraces = false := (show e.platform.stackTraces = l.stackTraces by rw [X.admits.platform]).trans hl
  have Y := vx_rebase X (R' := { frames := R.frames, locals := R.locals, cells := 1, slots := 6 }) (Nat.le_refl _) (Nat.le_refl _) hRcells hRslots
  obtain ⟨s', hA⟩ : ∃ z, z = (T.setVm s.vm).setFrames (.invoking m args :: below) := ⟨_, rfl⟩
  rw [← hA] at Y
  have hvm : s'.vm = s.vm := by rw [hA]; rfl
  have hhp : s'.heap = H := by rw [hA]; exact hT
  have hW0 : s.WarmedH s'.vm := by rw [hvm]; exact State.WarmedH.refl s
  have hat' : ∀ w ∈ vx_atS own ic cls names, w.before args s' = true := fun w hw => vx_ot_at hW0 hvm.symm (hgood w (List.mem_cons_of_mem _ (List.mem_cons_of_mem _ hw))) (hat w hw)
  have hk' : (Cond.classLink own ik cls).before args s' = true := vx_ot_at hW0 hvm.symm (hgood _ List.mem_cons_self) hk
  have hini' : (Cond.initialized cls).before args s' = true := vx_ot_at hW0 hvm.symm (hgood _ (List.mem_cons_of_mem _ List.mem_cons_self)) hini
  have hU' : vx_Zq Bundle.tN "UNASSIGNED_STACK" Bundle.steD A s' s'.heap := by rw [hhp]; exact vx_Zq.moved hW0.alike (hU.kept hS.2.1)
  have hN' : vx_Zq Bundle.tN "SUPPRESSED_SENTINEL" Bundle.listD A s' s'.heap := by rw [hhp]; exact vx_Zq.moved hW0.alike (hN.kept hS.2.1)
  have h : ∀ w ∈ Bundle.ownAtoms own ic cls names, w.before args s' = true := vx_own hat' (vx_isRefq hU'.1) (vx_isRefq hN'.1) hU'.2.word hN'.2.word
  have hown' : s'.vm.findClass own = some m.cls := by rw [hvm]; exact hown
  have hins : (Cond.instantiable cls 6).before args s' = true := h _ (by simp [Bundle.ownAtoms])
  obtain ⟨vm₁, cX, kX, hfX, hkX, -, -, X₁, st1⟩ := Y.newCold hexec (own := own) (C := cls) (index := ik) (n := 6) hown' hk' hins hini'
    (g := F0 m pc ls rest) rfl (by rw [hb]; exact d0) (Nat.le_refl _) (Nat.le_refl _)
  generalize hT1 : (T.setVm vm₁).pushCell { cls := cX, slots := kX.instanceTypes.map defaultValue, vm := .none } = T1 at X₁ st1
  have hcat : (Value.ref T.heap.size).category = 1 := rfl
  have hcellA : T1.heap[T.heap.size]? = some (freshCell cX kX) := by rw [← hT1]; exact State.heap_pushCell_size _ _
  have d3' : decode c.code (pc + 3) = .ok (.dup, 1) := by rw [hb]; exact d3
  have d4' : decode c.code (pc + 4) = .ok (.ldc_w is, 3) := by rw [hb]; exact d4
  have hstr' : vk_R own is text sa s' := vk_R.warm hW0 hstr
  obtain ⟨U, hsteps, hrun, hend, hW, hsame, ce, hce, hO⟩ := X₁.ctorThrowS hexec htr (own := own) (cls := cls) (names := names) (ic := ic) hown' hcls hnames h (fun x hx => nomatch hx) hfX hkX hcellA (by rw [hhp, hT]; exact Nat.le_refl _) (msg := .ref sa) rfl
    (g := { method := m, pc := pc + 7, locals := ls, stack := .ref sa :: .ref T.heap.size :: .ref T.heap.size :: rest, locked := none }) rfl hsize rfl rfl (rest := rest) rfl
    (by rw [hb]; exact d7) (by rw [hb]; exact d10) hout hRframes (by simp only [List.map_cons, List.sum_cons, hcat]; omega) hlocks
  obtain ⟨f1, f2⟩ := vx_frame hsame
  rw [hhp] at f1 f2
  have hWs : s.WarmedH U.vm := State.WarmedH.trans hW0 hW
  have hcl : s.vm.findClass cls = some ce.cls := by
    have h9 := hO.cls
    rw [hvm] at h9
    exact h9
  have hall : s.sameButNew ({ U with vm := s.vm } : State) locs mc ms := by
    subst hA
    obtain ⟨e1, e2⟩ := hsame
    rw [State.setFrames_setFrames] at e1
    have h2 : (T.setVm s.vm).sameButNew ({ U with vm := s.vm } : State) [] (0 + 1) (0 + 6) := ⟨e1, e2⟩
    have h3 := X.same.trans h2
    rw [List.append_nil] at h3
    exact h3.mono hc hs
  refine ⟨U, ?_, .threw T.heap.size, hrun, hend, Or.inr ⟨T.heap.size, rfl, cls, ce, locs, hx U hWs.alike f1 (fun q hq => f2 q hq (fun z hz => nomatch hz)), hce, hO.vm, hcl, hWs, hall, hf⟩⟩
  refine st1 _ ?_
  show Steps p.tables e below (T1.setTop { method := m, pc := pc + 3, locals := ls, stack := .ref T.heap.size :: rest, locked := none }) _
  jvm_step X₁.here [X₁.here.top, hexec, d3', Value.category]
  exact X₁.ldcStringW hexec (own := own) (text := text) (index := is) (a := sa) hown' hstr'.1 hstr'.2
    (g := { method := m, pc := pc + 4, locals := ls, stack := .ref T.heap.size :: .ref T.heap.size :: rest, locked := none }) rfl d4' _ hsteps
end Ends
section Bodies
variable {l : Launch}
theorem vx_ofW {y : MethodName} {ws ws' : List Cond} {rm : Room} {Pc : Array Value → State → Prop} {Qc : Array Value → State → Outcome → State → Prop} {XC : String → State → State → Prop} {mc ms : Nat} {free : Addr → Prop} {cc : ByteArray} {maxL : Nat} {ret : Option FieldType}
    (hy : plainName y.cls = true) (hw : ws = Cond.code y cc maxL ret :: ws')
    (body : ∀ p e s m args below meth c s₁, BodyLoose p l y (headSpec ws rm) cc maxL ret e s m args below meth c s₁ → c.maxLocals = maxL → (∀ x ∈ c.exceptionTable.toList, False) → Pc args s →
      W p l e (headSpec ws rm).room s m args below meth c s.heap [] 0 0 (vx_MQ below Qc XC args s mc ms free) (entryFrame m args maxL)) : vx_Met l y ws rm Pc Qc XC mc ms free := by
  refine MetFree.of_bodyS (code := cc) (maxLocals := maxL) (ret := ret) hy ?_ ?_
  · intro args s m h hn
    obtain ⟨meth, c, h1, h2, h3, h4, h5, h6, -, -⟩ := Cond.code_spec hn (atoms_spec (ws := ws) h _ (by rw [hw]; exact List.mem_cons_self))
    exact ⟨meth, c, h1, h2, h3, h4, h5, h6⟩
  · intro p e s m args below meth c s₁ B hml hP _
    have hh0 : s₁.heap = s.heap := by rw [B.state]; rfl
    have ht : ∀ x ∈ c.exceptionTable.toList, False := by
      obtain ⟨meth9, c9, h1, h2, -, -, -, -, h7, -⟩ := Cond.code_spec B.named (atoms_spec (ws := ws) B.pre _ (by rw [hw]; exact List.mem_cons_self))
      cases Option.some.inj (h1.symm.trans B.method)
      cases Option.some.inj (h2.symm.trans (Stand.of_body B).code)
      intro x hx
      rw [Array.isEmpty_iff.mp h7] at hx
      cases hx
    obtain ⟨t, a1, o, b1, b2, b3⟩ := body p e s m args below meth c s₁ B hml ht hP s₁ hh0 (Stand.of_body B)
    exact ⟨t, o, a1, b1, b2, b3⟩
/-- the table of a body with handlers -/
theorem vx_table {p : Program} {x y : MethodName} {S : Spec} {cc bytes : ByteArray} {maxL maxL' : Nat} {ret ret' : Option FieldType} {e : Env} {s s₁ : State} {m : MethodId} {args : Array Value} {below : List Frame} {meth : Method} {c : Code} {hh : List (Nat × Nat × Nat × Nat)}
    (B : BodyLoose p l y S cc maxL ret e s m args below meth c s₁) (h : (Cond.codeWith y bytes maxL' ret' hh).before args s = true) : c.exceptionTable.toList = tableOf hh := by
  obtain ⟨m9, meth9, c9, hn9, h1, h2, -, -, h6, -⟩ := Cond.codeWith_spec h
  cases Option.some.inj (hn9.symm.trans B.named)
  cases Option.some.inj (h1.symm.trans B.method)
  cases Option.some.inj (h2.symm.trans (Stand.of_body B).code)
  rw [← h6, table_eq]
end Bodies
end VXA
/-! ===== END ===== -/
/-! ===== BEGIN a static call of a method with an exception table ===== -/
section VXS
variable {p : Program} {l : Launch} {e : Env} {R : Room} {s : State} {m : MethodId} {args : Array Value} {below : List Frame} {meth : Method} {c : Code} {T : State} {H : Heap} {locs : List Loc} {cells slots : Nat}
abbrev vx_CSW (R : Room) (s : State) (args : Array Value) (own : String) (index : Nat) (y : MethodName) (bytes : ByteArray) (maxL : Nat) (ret : Option FieldType) (hh : List (Nat × Nat × Nat × Nat)) (ws : List Cond) (rm : Room) (mc ms n : Nat) : Prop :=
  (rm.cells = mc ∧ rm.slots = ms ∧ rm.frames + 1 ≤ R.frames ∧ 8 + (maxL + 11) + rm.locals ≤ R.locals ∧ (∀ w ∈ ws, ∀ (a' : Array Value) (U : State), s.WarmedH U.vm → w.before a' U = true) ∧ Cond.codeWith y bytes maxL ret hh ∈ ws) ∧
  (Cond.codeWith y bytes maxL ret hh).before args s = true ∧ (Cond.initialized y.cls).before args s = true ∧ (y.cls ≠ "java/lang/invoke/MethodHandle" ∧ y.cls ≠ "java/lang/invoke/VarHandle") ∧
  (∀ sig, parseMethodDescriptor y.desc = some sig → n = sig.parameters.length) ∧ (Cond.methodLink own index y).before args s = true ∧ (Cond.static y).before args s = true
theorem vx_cwSW {own : String} {index maxL mc ms : Nat} {y : MethodName} {bytes : ByteArray} {ret : Option FieldType} {hh : List (Nat × Nat × Nat × Nat)} {Ts ws ws' : List Cond} {rm : Room} (n : Nat) (ht : ∀ w ∈ Ts, w.before args s = true) (hT : GoodIn Ts (va_wsS own index y ws)) (hw : ws = Cond.codeWith y bytes maxL ret hh :: ws') (hrc : rm.cells = mc) (hrs : rm.slots = ms)
    (hd : y.cls ≠ "java/lang/invoke/MethodHandle" ∧ y.cls ≠ "java/lang/invoke/VarHandle" ∧ (parseMethodDescriptor y.desc).map (fun d => d.parameters.length) = some n) (hR : rm.frames + 1 ≤ R.frames ∧ 8 + (maxL + 11) + rm.locals ≤ R.locals) :
    vx_CSW R s args own index y bytes maxL ret hh ws rm mc ms n := by
  have ok : ∀ w ∈ va_wsS own index y ws, w.before args s = true := fun w h => ht w (hT w h).1
  have hG : GoodIn Ts ws := fun w h => hT w (by unfold va_wsS; exact List.mem_append_right _ h)
  have hc : Cond.codeWith y bytes maxL ret hh ∈ ws := by rw [hw]; exact List.mem_cons_self
  refine ⟨⟨hrc, hrs, hR.1, hR.2, pay_in ht hG, hc⟩, ht _ (hG _ hc).1, ok _ (by simp [va_wsS]), ⟨hd.1, hd.2.1⟩, fun sig h => ?_, ok _ (by simp [va_wsS]), ok _ (by simp [va_wsS])⟩
  have h2 := hd.2.2
  rw [h] at h2
  exact (Option.some.inj h2).symm
theorem vx_callSW (X : Stand p l e R s m args below meth c T locs cells slots) (hexec : p.tables.exec = Jvm.exec) {own : String} {index : Nat} {y : MethodName} {bytes : ByteArray} {maxL : Nat} {ret : Option FieldType} {hh : List (Nat × Nat × Nat × Nat)}
    (hown : s.vm.findClass own = some m.cls) (hlink : (Cond.methodLink own index y).before args s = true) (hstat : (Cond.static y).before args s = true) (hinit : (Cond.initialized y.cls).before args s = true)
    (hcode : (Cond.codeWith y bytes maxL ret hh).before args s = true) (hy : y.cls ≠ "java/lang/invoke/MethodHandle" ∧ y.cls ≠ "java/lang/invoke/VarHandle")
    {W9 : Nat} {Pre : Pt → Array Value → Prop} {Post : Pt → Array Value → Option Value → Pt → Prop} (hK : Back l R p e below s args y 3 W9 Pre Post)
    {g : JFrame} (hg : g.method = m) (hsize : g.locals.size = c.maxLocals) {argsL rest : List Value} (hlen : ∀ sig, parseMethodDescriptor y.desc = some sig → argsL.length = sig.parameters.length)
    (hstack : g.stack = argsL.reverse ++ rest) (hW : 2 * g.monitorRoom + (rest.map fun v => v.category).sum ≤ W9) (hdg : decode c.code g.pc = .ok (.invokestatic index, 3))
    (hpre : ∀ vm₁, s.WarmedH vm₁ → Pre ⟨T.setVm vm₁, locs, cells, slots⟩ argsL.toArray) :
    ∃ (v : Option Value) (vm₁ : Vm) (B : Pt), s.WarmedH vm₁ ∧ Stand p l e R s m args below meth c B.U B.locs B.cells B.slots ∧ Post ⟨T.setVm vm₁, locs, cells, slots⟩ argsL.toArray v B ∧
      ∀ target, Steps p.tables e below (B.U.setTop { g with pc := g.pc + 3, stack := v.toList ++ rest }) target → Steps p.tables e below (T.setTop g) target := by
  obtain ⟨mk, methM, cM, hnamed, hmethM, -, -, -, -, -, -, hsigM⟩ := Cond.codeWith_spec hcode
  have hstatic : methM.isStatic = true := Cond.static_spec hnamed hmethM hstat
  obtain ⟨kP, hkP, -⟩ := className_of_methodNamed hnamed
  have hinitP : kP.init = .initialized := Cond.initialized_spec (findClass_of_methodNamed hnamed) hkP hinit
  obtain ⟨vm₁, X₁, hstep₁⟩ := X.invokestatic hexec hown hlink hnamed hmethM hstatic hkP hinitP hy (g := g) hg (argsL := argsL) (rest := rest) (hlen _ hsigM) hstack hdg
  obtain ⟨v, B, X', hpost, hsteps⟩ := hK m meth c ⟨T.setVm vm₁, locs, cells, slots⟩ { g with stack := rest } (.invokestatic index) mk argsL.toArray X₁ hg hsize hdg hW (X₁.named hnamed) (hpre vm₁ X₁.warmed)
  exact ⟨v, vm₁, B, X₁.warmed, X', hpost, fun target h => hstep₁ _ fun acts => by rw [doInvoke_state]; exact hsteps.trans h⟩
theorem vx_runSW {y : MethodName} {bytes cc : ByteArray} {maxL nL mc ms n index : Nat} {ret : Option FieldType} {hh : List (Nat × Nat × Nat × Nat)} {ws : List Cond} {rm : Room} {Pc : Array Value → State → Prop} {Qc : Array Value → State → Outcome → State → Prop} {free : Addr → Prop} {Ts : List Cond} {own : String} {As rest : List Value} {g : JFrame}
    (S : CallFix p m c cc nL s args Ts own) (hM : Met l y ws rm Pc Qc mc ms free) (cw : vx_CSW R s args own index y bytes maxL ret hh ws rm mc ms n) (hp : PreS s H Pc As)
    (hg : g.method = m) (hn : As.length = n) (hsize : g.locals.size = nL) (hstack : g.stack = As.reverse ++ rest) (hW : 2 * g.monitorRoom + (rest.map fun v => v.category).sum ≤ 8) (hdg : decode cc g.pc = .ok (.invokestatic index, 3)) (hf : cells + mc ≤ R.cells ∧ slots + ms ≤ R.slots) :
    va_Run p l e R s m args below meth c H locs cells slots mc ms g rest (Qc As.toArray) (free) := by
  obtain ⟨⟨hrc, hrs, hfr, hlo, hws, hcw⟩, hcode, hini, hy, hlen, hl, hstt⟩ := cw
  have hK : Back l R p e below s args y 3 8 (PreOf R mc ms Pc) (PostOf Qc mc ms free) := va_backW (hh := hh) (bytes := bytes) (maxL := maxL) (ret := ret) hM hp.1 hrc hrs hfr hlo hws hcw (fun a' U hW => word_at hW (Or.inl (by first | rfl | simp [Cond.onTables, Cond.keeps, Cond.steady])) hini)
  obtain ⟨hx, hb, hml, ho, -⟩ := S
  intro T hT X
  obtain ⟨v, vm₁, ⟨U', l2, c2, s2⟩, hW₁, X', ⟨g', mk, t, L, e1, e2, hq, h1, hL, h2, h3⟩, st⟩ := vx_callSW X hx (hh := hh) (bytes := bytes) (maxL := maxL) (ret := ret) ho hl hstt hini hcode hy hK hg (hsize.trans hml.symm) (argsL := As) (rest := rest) (fun sig h => hn.trans (hlen sig h)) hstack hW (by rw [hb]; exact hdg)
    (fun vm₁ hW₁ => ⟨hf.1, hf.2, hp.2 (T.setVm vm₁) hT hW₁⟩)
  dsimp only [Pt.U, Pt.locs, Pt.cells, Pt.slots] at X' e1 e2 h1 h2 h3 st
  subst h1; subst h2; subst h3
  exact ⟨v, (T.setVm vm₁).calling g' mk As.toArray, t, U', L, hT, X', hL, e1, e2, hq, st⟩
/-- not caught here, past rows that name other classes: it goes on to the caller -/
theorem vx_outP {p : Program} {l : Launch} {e : Env} {R : Room} {s : State} {m : MethodId} {args : Array Value} {below : List Frame} {meth : Method} {c : Code} {H : Heap} {locs : List Loc} {cells slots : Nat} {free : Addr → Prop} {ls : Array Slot} {rest : List Value} {Qc : Array Value → State → Outcome → State → Prop} {XC : String → State → State → Prop}
    {pc : Nat} {own E : String} {ce : Cell} {q : Addr} {mc ms : Nat} (hown : s.vm.findClass own = some m.cls) (hlocks : meth.locks = false)
    (hpass : ∀ z ∈ c.exceptionTable.toList, covers z pc = false ∨ (z.catchType ≠ 0 ∧ ∃ nm : String, (Cond.classLink own z.catchType nm).before args s = true ∧ va_Nc E nm s)) (hcell : H[q]? = some ce) (hv : ce.vm = .none) (hcl : s.vm.findClass E = some ce.cls)
    (hx : ∀ t : State, t.heap = H → s.vm.Alike t.vm → XC E s t) (hf : ∀ z ∈ locs, free z.base) (hc : cells ≤ mc) (hs : slots ≤ ms) :
    vx_W p l e R s m args below meth c H locs cells slots (vx_MQ below Qc XC args s mc ms free) (F0 m pc ls rest) q := by
  intro T hT X
  have hpl : e.platform.magicAccessors = ({} : Platform).magicAccessors := by rw [X.admits.platform]
  obtain ⟨vm', hW', X', st⟩ := X.outThrough hlocks q (g := F0 m pc ls rest) rfl rfl rfl (cell := ce) (by rw [hT]; exact hcell) (by rw [hv]; rfl)
    (by obtain ⟨k9, h9, -⟩ := Vm.findClass_spec hcl; exact ⟨k9, h9⟩) (fun z hz => by
      rcases hpass z hz with h | ⟨hz0, nm, hl1, hn1⟩
      · exact Or.inl h
      · obtain ⟨c6, hc6, hcl6⟩ := Cond.classLink_spec hown hl1 e.platform hpl
        obtain ⟨a8, b8, h1, h2, h3⟩ := hn1
        cases Option.some.inj (h1.symm.trans hcl)
        cases Option.some.inj (h2.symm.trans hc6)
        exact Or.inr ⟨hz0, _, hcl6, h3⟩)
  obtain ⟨g₀, hfr⟩ := X'.frames_eq
  have hcell9 : ((T.setVm vm').setFrames (.throwing q :: below)).heap[q]? = some ce := by
    show T.heap[q]? = some ce
    rw [hT]; exact hcell
  have hend : Ended ((T.setVm vm').setFrames (.throwing q :: below)) below (.threw q) := State.frames_setFrames _ (State.cur_lt_of_frames hfr)
  refine ⟨(T.setVm vm').setFrames (.throwing q :: below), ?_, .threw q, X'.here.running, hend, Or.inr ⟨q, rfl, E, ce, locs, hx _ hT (X'.ends _).1.alike, hcell9, hv, hcl, (X'.ends _).1, (X'.ends _).2.mono hc hs, hf⟩⟩
  rw [X.pushThrowing_eq]
  exact st
/-- a thing of a world lies in the heap -/
theorem vx_lt {D : va_G} {cl : List vw_C} {ws : va_W} {H1 : Heap} (h : va_P D cl ws H1) {k : Nat} {q : Nat × va_E} (hk : ws[k]? = some q) : q.1 < H1.size := (h k q hk).lt
end VXS
/-! ===== END ===== -/
/-! ===== BEGIN methods with a table of their own: called by a name, returning or throwing ===== -/
section VXH
/-! vx_backW, vx_callVX, vx_callSX, vx_callVW, vx_runVW, vx_runVX, vx_runSX, vx_ofWH follow the same proofs as their sisters above (Free/Laws.lean, Shelf42/LK1.lean); vx_outP calls Shelf42/NT130.lean (outThrough). -/
section
variable {l : Launch} {R : Room} {p : Program} {e : Env} {below : List Frame} {s : State} {sargs : Array Value} {y : MethodName} {len W9 : Nat}
theorem vx_backW {ws : List Cond} {rm : Room} {Pc : Array Value → State → Prop} {Qc : Array Value → State → Outcome → State → Prop} {XC : String → State → State → Prop} {mc ms : Nat} {free : Addr → Prop} {bytes : ByteArray} {maxL : Nat} {ret : Option FieldType} {hh : List (Nat × Nat × Nat × Nat)}
    (hM : vx_Met l y ws rm Pc Qc XC mc ms free) (hblind : FrameBlind Pc) (hrc : rm.cells = mc) (hrs : rm.slots = ms)
    (hframes : rm.frames + 1 ≤ R.frames) (hlocals : W9 + (maxL + 11) + rm.locals ≤ R.locals)
    (hws : ∀ w ∈ ws, ∀ a' U, s.WarmedH U.vm → w.before a' U = true) (hcode : Cond.codeWith y bytes maxL ret hh ∈ ws) (hinit : ∀ a' U, s.WarmedH U.vm → (Cond.initialized y.cls).before a' U = true) :
    vx_Back l R p e below s sargs y len W9 (PreOf R mc ms Pc) (PostOf Qc mc ms free) (vx_Post XC mc ms free) := by
  intro m meth c A g ig mk a X hg hsize hdg hW hn hp
  have h1 : (headSpec ws rm).pre.before a A.U = true := atoms_intro fun w hw => hws w hw _ _ X.warmed
  have h2 : (Cond.codeWith y bytes maxL ret hh).before a A.U = true := hws _ hcode _ _ X.warmed
  have h3 : (Cond.initialized y.cls).before a A.U = true := hinit _ _ X.warmed
  have h4 : A.cells + (headSpec ws rm).room.cells ≤ R.cells := by rw [show (headSpec ws rm).room.cells = mc from hrc]; exact hp.1
  have h5 : A.slots + (headSpec ws rm).room.slots ≤ R.slots := by rw [show (headSpec ws rm).room.slots = ms from hrs]; exact hp.2.1
  have hPc : Pc a (A.U.calling g mk a) := hblind _ _ _ _ hp.2.2
  obtain ⟨U, Ls, c0, s0⟩ := A
  dsimp only [Pt.U, Pt.locs, Pt.cells, Pt.slots] at h1 h2 h3 h4 h5 X hn hPc ⊢
  obtain ⟨m9, methY, cY, hn9, hmY, hcY, -, hlY, -⟩ := Cond.codeWith_spec h2
  cases Option.some.inj (hn9.symm.trans hn)
  obtain ⟨kY, hkY, -⟩ := className_of_methodNamed hn
  have hinitY : kY.init = .initialized := Cond.initialized_spec (findClass_of_methodNamed hn) hkY h3
  have h : At U g.method c below := by rw [hg]; exact X.here
  have hlocals9 : W9 + (maxL + 11) + (headSpec ws rm).room.locals ≤ R.locals := hlocals
  have happ : (headSpec ws rm).appliesLoose y e.platform (U.calling g mk a) = true :=
    Spec.appliesLoose_calling (g := g) h hdg hn hkY hinitY
      (X.room_calling (g := g) (R' := (headSpec ws rm).room) hsize hmY hcY hframes (by rw [hlY]; omega) h4 h5) h1
  obtain ⟨mid, hmid⟩ := h.above
  have hfr : (U.setTop g).frames = (.java g :: mid) ++ below := by rw [State.frames_setTop' g h.top, hmid]; rfl
  obtain ⟨o, s₂, hsteps, -, hend, hq⟩ := Steps.callFree hM p X.admits X.cas X.clock (acts := []) hfr happ hPc trivial
  have hq' : vx_Q Qc XC mc ms free a (U.calling g mk a) o s₂ := hq
  rw [State.frames_setTop' g h.top] at hend
  obtain ⟨g₀, hg0⟩ := Option.isSome_iff_exists.mp h.top
  obtain ⟨r, hr⟩ := State.topJava?_eq_some.mp hg0
  have hr' : (({ U with heap := s₂.heap, slotsUsed := s₂.slotsUsed } : State).setVm s₂.vm).frames = .java g₀ :: r := hr
  rcases hq' with ⟨hqc, L, hfe, hL⟩ | ⟨q, rfl, E, ce, L, hx, hce, hcv, hcl, hW₂, hsm, hL⟩
  · obtain ⟨⟨v, rfl⟩, hW₂, e2, q2, q3, q4, q5, q6⟩ := id hfe
    have e3 : s₂ = ({ (U.calling g mk a).setFrames s₂.frames with heap := s₂.heap, slotsUsed := s₂.slotsUsed } : State).setVm s₂.vm := by
      have : s₂ = ({ s₂ with vm := (U.calling g mk a).vm } : State).setVm s₂.vm := rfl
      rw [e2] at this
      exact this
    obtain ⟨c₂, i₂, len₂, hc₂, hd₂, hf₂⟩ := hend
    have hW' : U.WarmedH s₂.vm := hW₂
    have hcc : c₂ = c := by
      have h1 : s₂.code? g.method = U.code? g.method := by
        rw [State.code?_eq, State.code?_eq, hW'.alike.method?]
      exact Option.some.inj (hc₂.symm.trans (h1.trans h.code))
    subst hcc
    have hlen : len₂ = len := by rw [hdg] at hd₂; cases hd₂; rfl
    subst hlen
    have hs₂ : s₂ = (({ U with heap := s₂.heap, slotsUsed := s₂.slotsUsed } : State).setVm s₂.vm).setTop { g with pc := g.pc + len₂, stack := v.toList ++ g.stack } := by
      refine e3.trans ?_
      rw [hf₂, State.calling_eq h.top, State.setFrames_setFrames, State.setTop_of_frames _ hr', hr]
      rfl
    have hsame : U.sameButNew ({ U with heap := s₂.heap, slotsUsed := s₂.slotsUsed } : State) L mc ms := by
      refine ⟨?_, q2, q3, q4, q5, q6⟩
      obtain ⟨t, ht, -⟩ := State.frames_cons hr
      show ({ U with heap := s₂.heap, slotsUsed := s₂.slotsUsed } : State) = { U.setFrames U.frames with heap := s₂.heap, slotsUsed := s₂.slotsUsed }
      rw [State.setFrames_self ht]
    subst hg
    refine Or.inl ⟨v, ⟨(({ U with heap := s₂.heap, slotsUsed := s₂.slotsUsed } : State).setVm s₂.vm), Ls ++ L, c0 + mc, s0 + ms⟩,
      ⟨X.admits, X.cas, X.clock, X.frames, X.room, X.hears, X.method, X.code, (X.here.setHeapUsed s₂.heap s₂.slotsUsed).setVm hW'.alike, X.tail, State.WarmedH.trans X.warmed hW', X.limits, X.bytes, X.same.trans (hsame.setVm s.vm)⟩,
      ⟨g, mk, s₂, L, rfl, rfl, hqc, rfl, hL, rfl, rfl⟩, ?_⟩
    show Steps p.tables e below _ ((({ U with heap := s₂.heap, slotsUsed := s₂.slotsUsed } : State).setVm s₂.vm).setTop { g with pc := g.pc + len₂, stack := v.toList ++ g.stack })
    rw [← hs₂]
    exact hsteps
  · obtain ⟨e2, q2, q3, q4, q5, q6⟩ := id hsm
    have e3 : s₂ = ({ (U.calling g mk a).setFrames s₂.frames with heap := s₂.heap, slotsUsed := s₂.slotsUsed } : State).setVm s₂.vm := by
      have : s₂ = ({ s₂ with vm := (U.calling g mk a).vm } : State).setVm s₂.vm := rfl
      rw [e2] at this
      exact this
    have hf₂ : s₂.frames = .throwing q :: .java g :: U.frames.tail := hend
    have hW' : U.WarmedH s₂.vm := hW₂
    have hs₂ : s₂ = ((({ U with heap := s₂.heap, slotsUsed := s₂.slotsUsed } : State).setVm s₂.vm).setTop g).pushFrame (.throwing q) := by
      refine e3.trans ?_
      rw [hf₂, State.calling_eq h.top, State.setFrames_setFrames, State.pushFrame, State.frames_setTop _ hr', State.setTop_of_frames _ hr', State.setFrames_setFrames, hr]
      rfl
    have hsame : U.sameButNew ({ U with heap := s₂.heap, slotsUsed := s₂.slotsUsed } : State) L mc ms := by
      refine ⟨?_, q2, q3, q4, q5, q6⟩
      obtain ⟨t, ht, -⟩ := State.frames_cons hr
      show ({ U with heap := s₂.heap, slotsUsed := s₂.slotsUsed } : State) = { U.setFrames U.frames with heap := s₂.heap, slotsUsed := s₂.slotsUsed }
      rw [State.setFrames_self ht]
    subst hg
    refine Or.inr ⟨q, ⟨(({ U with heap := s₂.heap, slotsUsed := s₂.slotsUsed } : State).setVm s₂.vm), Ls ++ L, c0 + mc, s0 + ms⟩,
      ⟨X.admits, X.cas, X.clock, X.frames, X.room, X.hears, X.method, X.code, (X.here.setHeapUsed s₂.heap s₂.slotsUsed).setVm hW'.alike, X.tail, State.WarmedH.trans X.warmed hW', X.limits, X.bytes, X.same.trans (hsame.setVm s.vm)⟩,
      ⟨g, mk, s₂, L, E, ce, rfl, rfl, hx, hce, hcv, hcl, rfl, hL, rfl, rfl⟩, ?_⟩
    show Steps p.tables e below _ (((({ U with heap := s₂.heap, slotsUsed := s₂.slotsUsed } : State).setVm s₂.vm).setTop g).pushFrame (.throwing q))
    rw [← hs₂]
    exact hsteps
end
variable {p : Program} {l : Launch} {e : Env} {R : Room} {s : State} {m : MethodId} {args : Array Value} {below : List Frame} {meth : Method} {c : Code} {T : State} {H : Heap} {locs : List Loc} {cells slots : Nat}
theorem vx_callVX (X : Stand p l e R s m args below meth c T locs cells slots) (hexec : p.tables.exec = Jvm.exec) {own C : String} {index : Nat} {y : MethodName} {bytes : ByteArray} {maxL : Nat} {ret : Option FieldType} {hh : List (Nat × Nat × Nat × Nat)}
    (hown : s.vm.findClass own = some m.cls) (hlink : (Cond.methodLink own index y).before args s = true) (hinst : (Cond.instanceMethod y).before args s = true) (hsel : (Cond.selects C y y).before args s = true)
    (hcode : (Cond.codeWith y bytes maxL ret hh).before args s = true) (hy : y.cls ≠ "java/lang/invoke/MethodHandle" ∧ y.cls ≠ "java/lang/invoke/VarHandle")
    {W9 : Nat} {Pre : Pt → Array Value → Prop} {Post : Pt → Array Value → Option Value → Pt → Prop} {PostX : Pt → Array Value → Addr → Pt → Prop} (hK : vx_Back l R p e below s args y 3 W9 Pre Post PostX)
    {b : Addr} {cellB : Cell} (hcell : T.heap[b]? = some cellB) (hobj : cellB.vm.isStatics = false) (hcls : s.vm.findClass C = some cellB.cls)
    {g : JFrame} (hg : g.method = m) (hsize : g.locals.size = c.maxLocals) {argsL rest : List Value} (hlen : ∀ sig, parseMethodDescriptor y.desc = some sig → argsL.length = sig.parameters.length)
    (hstack : g.stack = argsL.reverse ++ .ref b :: rest) (hW : 2 * g.monitorRoom + (rest.map fun v => v.category).sum ≤ W9) (hdg : decode c.code g.pc = .ok (.invokevirtual index, 3))
    (hpre : ∀ vm₁, s.WarmedH vm₁ → Pre ⟨T.setVm vm₁, locs, cells, slots⟩ (Value.ref b :: argsL).toArray) :
    (∃ (v : Option Value) (vm₁ : Vm) (B : Pt), s.WarmedH vm₁ ∧ Stand p l e R s m args below meth c B.U B.locs B.cells B.slots ∧ Post ⟨T.setVm vm₁, locs, cells, slots⟩ (Value.ref b :: argsL).toArray v B ∧
      ∀ target, Steps p.tables e below (B.U.setTop { g with pc := g.pc + 3, stack := v.toList ++ rest }) target → Steps p.tables e below (T.setTop g) target) ∨
    (∃ (q : Addr) (vm₁ : Vm) (B : Pt), s.WarmedH vm₁ ∧ Stand p l e R s m args below meth c B.U B.locs B.cells B.slots ∧ PostX ⟨T.setVm vm₁, locs, cells, slots⟩ (Value.ref b :: argsL).toArray q B ∧
      Steps p.tables e below (T.setTop g) ((B.U.setTop { g with stack := rest }).pushFrame (.throwing q))) := by
  obtain ⟨mk, methM, hnamed, hmethM, hstM, habM⟩ := Cond.instanceMethod_spec hinst
  obtain ⟨m8, methM', cM, hn8, hmethM', -, -, -, -, -, -, hsigM⟩ := Cond.codeWith_spec hcode
  cases Option.some.inj (hn8.symm.trans hnamed)
  cases hmethM.symm.trans hmethM'
  obtain ⟨c2, r2, m2, q1, q2, q3, q4, kP, hkP, hkPi⟩ := Cond.selects_spec hsel
  cases hcls.symm.trans q1
  cases (State.methodFound?_of_named hnamed hy).symm.trans q2
  cases hnamed.symm.trans q3
  have hselP : selectMethod e.platform s.vm cellB.cls mk = .method mk := by rw [Launch.admits_selectMethod X.admits]; exact q4
  obtain ⟨vm₁, X₁, hstep₁⟩ := X.invokevirtual hexec hown hlink hnamed hmethM hstM hkP hkPi hy (a := b) (cell := cellB) hcell
    (fun z h => by rw [h] at hobj; cases hobj) hselP hmethM habM hkP hkPi (g := g) hg (argsL := argsL) (rest := rest) (hlen _ hsigM) hstack hdg
  rcases hK m meth c ⟨T.setVm vm₁, locs, cells, slots⟩ { g with stack := rest } (.invokevirtual index) mk (Value.ref b :: argsL).toArray X₁ hg hsize hdg hW (X₁.named hnamed) (hpre vm₁ X₁.warmed) with ⟨v, B, X', hpost, hsteps⟩ | ⟨q, B, X', hpost, hsteps⟩
  · exact Or.inl ⟨v, vm₁, B, X₁.warmed, X', hpost, fun target h => hstep₁ _ fun acts => by rw [doInvoke_state]; exact hsteps.trans h⟩
  · exact Or.inr ⟨q, vm₁, B, X₁.warmed, X', hpost, hstep₁ _ fun acts => by rw [doInvoke_state]; exact hsteps⟩
theorem vx_callSX (X : Stand p l e R s m args below meth c T locs cells slots) (hexec : p.tables.exec = Jvm.exec) {own : String} {index : Nat} {y : MethodName} {bytes : ByteArray} {maxL : Nat} {ret : Option FieldType} {hh : List (Nat × Nat × Nat × Nat)}
    (hown : s.vm.findClass own = some m.cls) (hlink : (Cond.methodLink own index y).before args s = true) (hstat : (Cond.static y).before args s = true) (hinit : (Cond.initialized y.cls).before args s = true)
    (hcode : (Cond.codeWith y bytes maxL ret hh).before args s = true) (hy : y.cls ≠ "java/lang/invoke/MethodHandle" ∧ y.cls ≠ "java/lang/invoke/VarHandle")
    {W9 : Nat} {Pre : Pt → Array Value → Prop} {Post : Pt → Array Value → Option Value → Pt → Prop} {PostX : Pt → Array Value → Addr → Pt → Prop} (hK : vx_Back l R p e below s args y 3 W9 Pre Post PostX)
    {g : JFrame} (hg : g.method = m) (hsize : g.locals.size = c.maxLocals) {argsL rest : List Value} (hlen : ∀ sig, parseMethodDescriptor y.desc = some sig → argsL.length = sig.parameters.length)
    (hstack : g.stack = argsL.reverse ++ rest) (hW : 2 * g.monitorRoom + (rest.map fun v => v.category).sum ≤ W9) (hdg : decode c.code g.pc = .ok (.invokestatic index, 3))
    (hpre : ∀ vm₁, s.WarmedH vm₁ → Pre ⟨T.setVm vm₁, locs, cells, slots⟩ argsL.toArray) :
    (∃ (v : Option Value) (vm₁ : Vm) (B : Pt), s.WarmedH vm₁ ∧ Stand p l e R s m args below meth c B.U B.locs B.cells B.slots ∧ Post ⟨T.setVm vm₁, locs, cells, slots⟩ argsL.toArray v B ∧
      ∀ target, Steps p.tables e below (B.U.setTop { g with pc := g.pc + 3, stack := v.toList ++ rest }) target → Steps p.tables e below (T.setTop g) target) ∨
    (∃ (q : Addr) (vm₁ : Vm) (B : Pt), s.WarmedH vm₁ ∧ Stand p l e R s m args below meth c B.U B.locs B.cells B.slots ∧ PostX ⟨T.setVm vm₁, locs, cells, slots⟩ argsL.toArray q B ∧
      Steps p.tables e below (T.setTop g) ((B.U.setTop { g with stack := rest }).pushFrame (.throwing q))) := by
  obtain ⟨mk, methM, cM, hnamed, hmethM, -, -, -, -, -, -, hsigM⟩ := Cond.codeWith_spec hcode
  have hstatic : methM.isStatic = true := Cond.static_spec hnamed hmethM hstat
  obtain ⟨kP, hkP, -⟩ := className_of_methodNamed hnamed
  have hinitP : kP.init = .initialized := Cond.initialized_spec (findClass_of_methodNamed hnamed) hkP hinit
  obtain ⟨vm₁, X₁, hstep₁⟩ := X.invokestatic hexec hown hlink hnamed hmethM hstatic hkP hinitP hy (g := g) hg (argsL := argsL) (rest := rest) (hlen _ hsigM) hstack hdg
  rcases hK m meth c ⟨T.setVm vm₁, locs, cells, slots⟩ { g with stack := rest } (.invokestatic index) mk argsL.toArray X₁ hg hsize hdg hW (X₁.named hnamed) (hpre vm₁ X₁.warmed) with ⟨v, B, X', hpost, hsteps⟩ | ⟨q, B, X', hpost, hsteps⟩
  · exact Or.inl ⟨v, vm₁, B, X₁.warmed, X', hpost, fun target h => hstep₁ _ fun acts => by rw [doInvoke_state]; exact hsteps.trans h⟩
  · exact Or.inr ⟨q, vm₁, B, X₁.warmed, X', hpost, hstep₁ _ fun acts => by rw [doInvoke_state]; exact hsteps⟩
theorem vx_callVW (X : Stand p l e R s m args below meth c T locs cells slots) (hexec : p.tables.exec = Jvm.exec) {own C : String} {index : Nat} {y : MethodName} {bytes : ByteArray} {maxL : Nat} {ret : Option FieldType} {hh : List (Nat × Nat × Nat × Nat)}
    (hown : s.vm.findClass own = some m.cls) (hlink : (Cond.methodLink own index y).before args s = true) (hinst : (Cond.instanceMethod y).before args s = true) (hsel : (Cond.selects C y y).before args s = true)
    (hcode : (Cond.codeWith y bytes maxL ret hh).before args s = true) (hy : y.cls ≠ "java/lang/invoke/MethodHandle" ∧ y.cls ≠ "java/lang/invoke/VarHandle")
    {W9 : Nat} {Pre : Pt → Array Value → Prop} {Post : Pt → Array Value → Option Value → Pt → Prop} (hK : Back l R p e below s args y 3 W9 Pre Post)
    {b : Addr} {cellB : Cell} (hcell : T.heap[b]? = some cellB) (hobj : cellB.vm.isStatics = false) (hcls : s.vm.findClass C = some cellB.cls)
    {g : JFrame} (hg : g.method = m) (hsize : g.locals.size = c.maxLocals) {argsL rest : List Value} (hlen : ∀ sig, parseMethodDescriptor y.desc = some sig → argsL.length = sig.parameters.length)
    (hstack : g.stack = argsL.reverse ++ .ref b :: rest) (hW : 2 * g.monitorRoom + (rest.map fun v => v.category).sum ≤ W9) (hdg : decode c.code g.pc = .ok (.invokevirtual index, 3))
    (hpre : ∀ vm₁, s.WarmedH vm₁ → Pre ⟨T.setVm vm₁, locs, cells, slots⟩ (Value.ref b :: argsL).toArray) :
    ∃ (v : Option Value) (vm₁ : Vm) (B : Pt), s.WarmedH vm₁ ∧ Stand p l e R s m args below meth c B.U B.locs B.cells B.slots ∧ Post ⟨T.setVm vm₁, locs, cells, slots⟩ (Value.ref b :: argsL).toArray v B ∧
      ∀ target, Steps p.tables e below (B.U.setTop { g with pc := g.pc + 3, stack := v.toList ++ rest }) target → Steps p.tables e below (T.setTop g) target := by
  obtain ⟨mk, methM, hnamed, hmethM, hstM, habM⟩ := Cond.instanceMethod_spec hinst
  obtain ⟨m8, methM', cM, hn8, hmethM', -, -, -, -, -, -, hsigM⟩ := Cond.codeWith_spec hcode
  cases Option.some.inj (hn8.symm.trans hnamed)
  cases hmethM.symm.trans hmethM'
  obtain ⟨c2, r2, m2, q1, q2, q3, q4, kP, hkP, hkPi⟩ := Cond.selects_spec hsel
  cases hcls.symm.trans q1
  cases (State.methodFound?_of_named hnamed hy).symm.trans q2
  cases hnamed.symm.trans q3
  have hselP : selectMethod e.platform s.vm cellB.cls mk = .method mk := by rw [Launch.admits_selectMethod X.admits]; exact q4
  obtain ⟨vm₁, X₁, hstep₁⟩ := X.invokevirtual hexec hown hlink hnamed hmethM hstM hkP hkPi hy (a := b) (cell := cellB) hcell
    (fun z h => by rw [h] at hobj; cases hobj) hselP hmethM habM hkP hkPi (g := g) hg (argsL := argsL) (rest := rest) (hlen _ hsigM) hstack hdg
  obtain ⟨v, B, X', hpost, hsteps⟩ := hK m meth c ⟨T.setVm vm₁, locs, cells, slots⟩ { g with stack := rest } (.invokevirtual index) mk (Value.ref b :: argsL).toArray X₁ hg hsize hdg hW (X₁.named hnamed) (hpre vm₁ X₁.warmed)
  exact ⟨v, vm₁, B, X₁.warmed, X', hpost, fun target h => hstep₁ _ fun acts => by rw [doInvoke_state]; exact hsteps.trans h⟩
abbrev vx_CVW (R : Room) (s : State) (args : Array Value) (own C : String) (index : Nat) (y : MethodName) (bytes : ByteArray) (maxL : Nat) (ret : Option FieldType) (hh : List (Nat × Nat × Nat × Nat)) (ws : List Cond) (rm : Room) (mc ms n : Nat) : Prop :=
  (rm.cells = mc ∧ rm.slots = ms ∧ rm.frames + 1 ≤ R.frames ∧ 8 + (maxL + 11) + rm.locals ≤ R.locals ∧ (∀ w ∈ ws, ∀ (a' : Array Value) (U : State), s.WarmedH U.vm → w.before a' U = true) ∧ Cond.codeWith y bytes maxL ret hh ∈ ws) ∧
  (Cond.codeWith y bytes maxL ret hh).before args s = true ∧ (Cond.initialized y.cls).before args s = true ∧ (y.cls ≠ "java/lang/invoke/MethodHandle" ∧ y.cls ≠ "java/lang/invoke/VarHandle") ∧
  (∀ sig, parseMethodDescriptor y.desc = some sig → n = sig.parameters.length) ∧ (Cond.methodLink own index y).before args s = true ∧ (Cond.instanceMethod y).before args s = true ∧ (Cond.selects C y y).before args s = true
theorem vx_cwVW {own C : String} {index maxL mc ms : Nat} {y : MethodName} {bytes : ByteArray} {ret : Option FieldType} {hh : List (Nat × Nat × Nat × Nat)} {Ts ws ws' : List Cond} {rm : Room} (n : Nat) (ht : ∀ w ∈ Ts, w.before args s = true) (hT : GoodIn Ts (wsV own index C y ws)) (hw : ws = Cond.codeWith y bytes maxL ret hh :: ws') (hrc : rm.cells = mc) (hrs : rm.slots = ms)
    (hd : y.cls = C ∧ y.cls ≠ "java/lang/invoke/MethodHandle" ∧ y.cls ≠ "java/lang/invoke/VarHandle" ∧ (parseMethodDescriptor y.desc).map (fun d => d.parameters.length) = some n) (hR : rm.frames + 1 ≤ R.frames ∧ 8 + (maxL + 11) + rm.locals ≤ R.locals) :
    vx_CVW R s args own C index y bytes maxL ret hh ws rm mc ms n := by
  obtain ⟨hC, hd⟩ := hd
  subst hC
  have ok : ∀ w ∈ wsV own index y.cls y ws, w.before args s = true := fun w h => ht w (hT w h).1
  have hG : GoodIn Ts ws := fun w h => hT w (by unfold wsV; exact List.mem_append_right _ h)
  have hc : Cond.codeWith y bytes maxL ret hh ∈ ws := by rw [hw]; exact List.mem_cons_self
  refine ⟨⟨hrc, hrs, hR.1, hR.2, pay_in ht hG, hc⟩, ht _ (hG _ hc).1, ok _ (by simp [wsV]), ⟨hd.1, hd.2.1⟩, fun sig h => ?_, ok _ (by simp [wsV]), ok _ (by simp [wsV]), ok _ (by simp [wsV])⟩
  have h2 := hd.2.2
  rw [h] at h2
  exact (Option.some.inj h2).symm
theorem vx_runVW {y : MethodName} {bytes cc : ByteArray} {maxL nL mc ms n index : Nat} {ret : Option FieldType} {hh : List (Nat × Nat × Nat × Nat)} {ws : List Cond} {rm : Room} {Pc : Array Value → State → Prop} {Qc : Array Value → State → Outcome → State → Prop} {free : Addr → Prop} {Ts : List Cond} {own C : String} {b : Addr} {As rest : List Value} {g : JFrame}
    (S : CallFix p m c cc nL s args Ts own) (hM : Met l y ws rm Pc Qc mc ms free) (cw : vx_CVW R s args own C index y bytes maxL ret hh ws rm mc ms n) (hp : PreV s H C b Pc As)
    (hg : g.method = m) (hn : As.length = n) (hsize : g.locals.size = nL) (hstack : g.stack = As.reverse ++ .ref b :: rest) (hW : 2 * g.monitorRoom + (rest.map fun v => v.category).sum ≤ 8) (hdg : decode cc g.pc = .ok (.invokevirtual index, 3)) (hf : cells + mc ≤ R.cells ∧ slots + ms ≤ R.slots) :
    va_Run p l e R s m args below meth c H locs cells slots mc ms g rest (Qc (Value.ref b :: As).toArray) free := by
  obtain ⟨⟨hrc, hrs, hfr, hlo, hws, hcw⟩, hcode, hini, hy, hlen, hl, hin, hse⟩ := cw
  have hK : Back l R p e below s args y 3 8 (PreOf R mc ms Pc) (PostOf Qc mc ms free) := va_backW (hh := hh) (bytes := bytes) (maxL := maxL) (ret := ret) hM hp.1 hrc hrs hfr hlo hws hcw (fun a' U hW => word_at hW (Or.inl (by first | rfl | simp [Cond.onTables, Cond.keeps, Cond.steady])) hini)
  obtain ⟨hx, hb, hml, ho, -⟩ := S
  obtain ⟨-, ⟨cellB, hcB, hoB, hclB⟩, hPc⟩ := hp
  intro T hT X
  obtain ⟨v, vm₁, ⟨U', l2, c2, s2⟩, hW₁, X', ⟨g', mk, t, L, e1, e2, hq, h1, hL, h2, h3⟩, st⟩ := vx_callVW X hx (C := C) (hh := hh) (bytes := bytes) (maxL := maxL) (ret := ret) ho hl hin hse hcode hy hK (by rw [hT]; exact hcB) hoB hclB hg (hsize.trans hml.symm) (argsL := As) (rest := rest) (fun sig h => hn.trans (hlen sig h)) hstack hW (by rw [hb]; exact hdg)
    (fun vm₁ hW₁ => ⟨hf.1, hf.2, hPc (T.setVm vm₁) hT hW₁⟩)
  dsimp only [Pt.U, Pt.locs, Pt.cells, Pt.slots] at X' e1 e2 h1 h2 h3 st
  subst h1; subst h2; subst h3
  exact ⟨v, (T.setVm vm₁).calling g' mk (Value.ref b :: As).toArray, t, U', L, hT, X', hL, e1, e2, hq, st⟩
section
variable {y : MethodName} {bytes cc : ByteArray} {maxL nL mc ms n index : Nat} {ret : Option FieldType} {ws : List Cond} {rm : Room} {Pc : Array Value → State → Prop} {Qc : Array Value → State → Outcome → State → Prop} {XC : String → State → State → Prop} {free : Addr → Prop} {Ts : List Cond} {own C : String} {b : Addr} {As rest : List Value} {g : JFrame}
theorem vx_runVX {hh : List (Nat × Nat × Nat × Nat)} (S : CallFix p m c cc nL s args Ts own) (hM : vx_Met l y ws rm Pc Qc XC mc ms free) (cw : vx_CVW R s args own C index y bytes maxL ret hh ws rm mc ms n) (hp : PreV s H C b Pc As)
    (hg : g.method = m) (hn : As.length = n) (hsize : g.locals.size = nL) (hstack : g.stack = As.reverse ++ .ref b :: rest) (hW : 2 * g.monitorRoom + (rest.map fun v => v.category).sum ≤ 8) (hdg : decode cc g.pc = .ok (.invokevirtual index, 3)) (hf : cells + mc ≤ R.cells ∧ slots + ms ≤ R.slots) :
    vx_Run p l e R s m args below meth c H locs cells slots mc ms g rest (Qc (Value.ref b :: As).toArray) XC free := by
  obtain ⟨⟨hrc, hrs, hfr, hlo, hws, hcw⟩, hcode, hini, hy, hlen, hl, hin, hse⟩ := cw
  have hK : vx_Back l R p e below s args y 3 8 (PreOf R mc ms Pc) (PostOf Qc mc ms free) (vx_Post XC mc ms free) := vx_backW (hh := hh) (bytes := bytes) (maxL := maxL) (ret := ret) hM hp.1 hrc hrs hfr hlo hws hcw (fun a' U hW => word_at hW (Or.inl (by first | rfl | simp [Cond.onTables, Cond.keeps, Cond.steady])) hini)
  obtain ⟨hx, hb, hml, ho, -⟩ := S
  obtain ⟨-, ⟨cellB, hcB, hoB, hclB⟩, hPc⟩ := hp
  intro T hT X
  rcases vx_callVX X hx (C := C) (hh := hh) (bytes := bytes) (maxL := maxL) (ret := ret) ho hl hin hse hcode hy hK (by rw [hT]; exact hcB) hoB hclB hg (hsize.trans hml.symm) (argsL := As) (rest := rest) (fun sig h => hn.trans (hlen sig h)) hstack hW (by rw [hb]; exact hdg)
    (fun vm₁ hW₁ => ⟨hf.1, hf.2, hPc (T.setVm vm₁) hT hW₁⟩) with ⟨v, vm₁, ⟨U', l2, c2, s2⟩, hW₁, X', ⟨g', mk, t, L, e1, e2, hq, h1, hL, h2, h3⟩, st⟩ | ⟨q, vm₁, ⟨U', l2, c2, s2⟩, hW₁, X', ⟨g', mk, t, L, E, ce, e1, e2, hq, hce, hcv, hcl, h1, hL, h2, h3⟩, st⟩
  · dsimp only [Pt.U, Pt.locs, Pt.cells, Pt.slots] at X' e1 e2 h1 h2 h3 st
    subst h1; subst h2; subst h3
    exact Or.inl ⟨v, (T.setVm vm₁).calling g' mk (Value.ref b :: As).toArray, t, U', L, hT, X', hL, e1, e2, hq, st⟩
  · dsimp only [Pt.U, Pt.locs, Pt.cells, Pt.slots] at X' e1 e2 h1 h2 h3 st hcl
    subst h1; subst h2; subst h3
    exact Or.inr ⟨q, (T.setVm vm₁).calling g' mk (Value.ref b :: As).toArray, t, U', L, E, ce, hT, X', hL, e1, e2, hq, hce, hcv, vx_cls hW₁ hcl, st⟩
theorem vx_runSX {hh : List (Nat × Nat × Nat × Nat)} (S : CallFix p m c cc nL s args Ts own) (hM : vx_Met l y ws rm Pc Qc XC mc ms free) (cw : vx_CSW R s args own index y bytes maxL ret hh ws rm mc ms n) (hp : PreS s H Pc As)
    (hg : g.method = m) (hn : As.length = n) (hsize : g.locals.size = nL) (hstack : g.stack = As.reverse ++ rest) (hW : 2 * g.monitorRoom + (rest.map fun v => v.category).sum ≤ 8) (hdg : decode cc g.pc = .ok (.invokestatic index, 3)) (hf : cells + mc ≤ R.cells ∧ slots + ms ≤ R.slots) :
    vx_Run p l e R s m args below meth c H locs cells slots mc ms g rest (Qc As.toArray) XC free := by
  obtain ⟨⟨hrc, hrs, hfr, hlo, hws, hcw⟩, hcode, hini, hy, hlen, hl, hstt⟩ := cw
  have hK : vx_Back l R p e below s args y 3 8 (PreOf R mc ms Pc) (PostOf Qc mc ms free) (vx_Post XC mc ms free) := vx_backW (hh := hh) (bytes := bytes) (maxL := maxL) (ret := ret) hM hp.1 hrc hrs hfr hlo hws hcw (fun a' U hW => word_at hW (Or.inl (by first | rfl | simp [Cond.onTables, Cond.keeps, Cond.steady])) hini)
  obtain ⟨hx, hb, hml, ho, -⟩ := S
  intro T hT X
  rcases vx_callSX X hx (hh := hh) (bytes := bytes) (maxL := maxL) (ret := ret) ho hl hstt hini hcode hy hK hg (hsize.trans hml.symm) (argsL := As) (rest := rest) (fun sig h => hn.trans (hlen sig h)) hstack hW (by rw [hb]; exact hdg)
    (fun vm₁ hW₁ => ⟨hf.1, hf.2, hp.2 (T.setVm vm₁) hT hW₁⟩) with ⟨v, vm₁, ⟨U', l2, c2, s2⟩, hW₁, X', ⟨g', mk, t, L, e1, e2, hq, h1, hL, h2, h3⟩, st⟩ | ⟨q, vm₁, ⟨U', l2, c2, s2⟩, hW₁, X', ⟨g', mk, t, L, E, ce, e1, e2, hq, hce, hcv, hcl, h1, hL, h2, h3⟩, st⟩
  · dsimp only [Pt.U, Pt.locs, Pt.cells, Pt.slots] at X' e1 e2 h1 h2 h3 st
    subst h1; subst h2; subst h3
    exact Or.inl ⟨v, (T.setVm vm₁).calling g' mk As.toArray, t, U', L, hT, X', hL, e1, e2, hq, st⟩
  · dsimp only [Pt.U, Pt.locs, Pt.cells, Pt.slots] at X' e1 e2 h1 h2 h3 st hcl
    subst h1; subst h2; subst h3
    exact Or.inr ⟨q, (T.setVm vm₁).calling g' mk As.toArray, t, U', L, E, ce, hT, X', hL, e1, e2, hq, hce, hcv, vx_cls hW₁ hcl, st⟩
end
end VXH
theorem vx_ofWH {l : Launch} {y : MethodName} {ws ws' : List Cond} {rm : Room} {Pc : Array Value → State → Prop} {Qc : Array Value → State → Outcome → State → Prop} {XC : String → State → State → Prop} {mc ms : Nat} {free : Addr → Prop} {cc : ByteArray} {maxL : Nat} {ret : Option FieldType} {hh : List (Nat × Nat × Nat × Nat)}
    (hy : plainName y.cls = true) (hw : ws = Cond.codeWith y cc maxL ret hh :: ws')
    (body : ∀ p e s m args below meth c s₁, BodyLoose p l y (headSpec ws rm) cc maxL ret e s m args below meth c s₁ → c.maxLocals = maxL → Pc args s →
      W p l e (headSpec ws rm).room s m args below meth c s.heap [] 0 0 (vx_MQ below Qc XC args s mc ms free) (entryFrame m args maxL)) : vx_Met l y ws rm Pc Qc XC mc ms free := by
  refine MetFree.of_bodyS (code := cc) (maxLocals := maxL) (ret := ret) hy ?_ ?_
  · intro args s m h hn
    obtain ⟨m9, meth, c, hn9, h1, h2, h3, h4, -, h5, h6, -⟩ := Cond.codeWith_spec (atoms_spec (ws := ws) h _ (by rw [hw]; exact List.mem_cons_self))
    cases hn.symm.trans hn9
    exact ⟨meth, c, h1, h2, h3, h4, h5, h6⟩
  · intro p e s m args below meth c s₁ B hml hP _
    have hh0 : s₁.heap = s.heap := by rw [B.state]; rfl
    obtain ⟨t, a1, o, b1, b2, b3⟩ := body p e s m args below meth c s₁ B hml hP s₁ hh0 (Stand.of_body B)
    exact ⟨t, o, a1, b1, b2, b3⟩
/-! ===== END ===== -/
end
section
/-! names and field tables (printed by program out of the claim) -/
def RX0 : String := "SeaMeeting$Outlook"
def TX0 : u_T := fun k => match k with
  | 0 => ("SeaMeeting$Outlook", "world", "LSeaMeeting$World;", true)
  | 1 => ("SeaMeeting$Outlook", "drifters", "[I", true)
  | 2 => ("SeaMeeting$Outlook", "ports", "[I", true)
  | 3 => ("SeaMeeting$Outlook", "behinds", "[I", true)
  | 4 => ("SeaMeeting$Outlook", "prices", "[I", true)
  | 5 => ("SeaMeeting$Outlook", "sailings", "[LSeaMeeting$Sailing;", true)
  | 6 => ("SeaMeeting$Outlook", "needs", "[[I", true)
  | 7 => ("SeaMeeting$Outlook", "turning", "[[I", true)
  | 8 => ("SeaMeeting$Outlook", "cells", "I", false)
  | _ => ("SeaMeeting$Outlook", "fresh", "Z", false)
def tyX0 : Nat → FieldType := fun k => match k with
  | 0 => .object "SeaMeeting$World"
  | 1 => .array .int
  | 2 => .array .int
  | 3 => .array .int
  | 4 => .array .int
  | 5 => .array (.object "SeaMeeting$Sailing")
  | 6 => .array (.array .int)
  | 7 => .array (.array .int)
  | 8 => .int
  | _ => .boolean
theorem nmX0 : ∀ a, a < 10 → ∀ b, b < 10 → a ≠ b → (TX0 a).2.1 ≠ (TX0 b).2.1 := by decide +kernel
theorem tyX0_ok : ∀ k, k < 10 → parseFieldDescriptor (TX0 k).2.2.1 = some (tyX0 k) := by decide +kernel
abbrev cX0_init : ByteArray := prog_2_method_1_code
def yX0_init : MethodName := ⟨RX0, "<init>", "(LSeaMeeting$World;)V"⟩
abbrev cX0_forget : ByteArray := prog_2_method_2_code
def yX0_forget : MethodName := ⟨RX0, "forget", "()V"⟩
abbrev cX0_refresh : ByteArray := prog_2_method_3_code
def yX0_refresh : MethodName := ⟨RX0, "refresh", "()V"⟩
abbrev cX0_lookAtPaths : ByteArray := prog_2_method_4_code
def yX0_lookAtPaths : MethodName := ⟨RX0, "lookAtPaths", "()V"⟩
abbrev cX0_lookAtCourses : ByteArray := prog_2_method_5_code
def yX0_lookAtCourses : MethodName := ⟨RX0, "lookAtCourses", "()V"⟩
abbrev cX0_lookAtPrices : ByteArray := prog_2_method_6_code
def yX0_lookAtPrices : MethodName := ⟨RX0, "lookAtPrices", "()V"⟩
abbrev cX0_drifterIn : ByteArray := prog_2_method_7_code
def yX0_drifterIn : MethodName := ⟨RX0, "drifterIn", "(I)I"⟩
abbrev cX0_portIn : ByteArray := prog_2_method_8_code
def yX0_portIn : MethodName := ⟨RX0, "portIn", "(I)I"⟩
abbrev cX0_earliestOf : ByteArray := prog_2_method_9_code
def yX0_earliestOf : MethodName := ⟨RX0, "earliestOf", "(I)I"⟩
abbrev cX0_mostMeeting : ByteArray := prog_2_method_10_code
def yX0_mostMeeting : MethodName := ⟨RX0, "mostMeeting", "(II)I"⟩
abbrev cX0_mostOf : ByteArray := prog_2_method_11_code
def yX0_mostOf : MethodName := ⟨RX0, "mostOf", "(III)I"⟩
abbrev cX0_reachOf : ByteArray := prog_2_method_12_code
def yX0_reachOf : MethodName := ⟨RX0, "reachOf", "(II)I"⟩
abbrev cX0_mostsOf : ByteArray := prog_2_method_13_code
def yX0_mostsOf : MethodName := ⟨RX0, "mostsOf", "(II)[I"⟩
abbrev cX0_sailingOf : ByteArray := prog_2_method_14_code
def yX0_sailingOf : MethodName := ⟨RX0, "sailingOf", "(I)LSeaMeeting$Sailing;"⟩
abbrev cX0_begin : ByteArray := prog_2_method_15_code
def yX0_begin : MethodName := ⟨RX0, "begin", "([III)V"⟩
abbrev cX0_sailHour : ByteArray := prog_2_method_16_code
def yX0_sailHour : MethodName := ⟨RX0, "sailHour", "([I[III)V"⟩
abbrev cX0_sailFrom : ByteArray := prog_2_method_17_code
def yX0_sailFrom : MethodName := ⟨RX0, "sailFrom", "(II[III)V"⟩
abbrev cX0_courseOf : ByteArray := prog_2_method_18_code
def yX0_courseOf : MethodName := ⟨RX0, "courseOf", "(II)I"⟩
abbrev cX0_lookAtNeeds : ByteArray := prog_2_method_19_code
def yX0_lookAtNeeds : MethodName := ⟨RX0, "lookAtNeeds", "(I)V"⟩
abbrev cX0_needFrom : ByteArray := prog_2_method_20_code
def yX0_needFrom : MethodName := ⟨RX0, "needFrom", "(II)I"⟩
abbrev cX0_needBy : ByteArray := prog_2_method_21_code
def yX0_needBy : MethodName := ⟨RX0, "needBy", "(III)I"⟩
abbrev cX0_walk : ByteArray := prog_2_method_22_code
def yX0_walk : MethodName := ⟨RX0, "walk", "([III)V"⟩
abbrev cX0_firstNeeding : ByteArray := prog_2_method_23_code
def yX0_firstNeeding : MethodName := ⟨RX0, "firstNeeding", "(III)I"⟩
abbrev cX0_leastOf : ByteArray := prog_2_method_24_code
def yX0_leastOf : MethodName := ⟨RX0, "leastOf", "(II)I"⟩
abbrev cX0_relayOf : ByteArray := prog_2_method_25_code
def yX0_relayOf : MethodName := ⟨RX0, "relayOf", "(II)I"⟩
abbrev cX0_giveFuel : ByteArray := prog_2_method_26_code
def yX0_giveFuel : MethodName := ⟨RX0, "giveFuel", "([I[I[I)V"⟩
abbrev cX0_homeOf : ByteArray := prog_2_method_27_code
def yX0_homeOf : MethodName := ⟨RX0, "homeOf", "(II)I"⟩
def RX1 : String := "SeaMeeting$Sailing"
def TX1 : u_T := fun k => match k with
  | 0 => ("SeaMeeting$Sailing", "mosts", "[[I", true)
  | 1 => ("SeaMeeting$Sailing", "courses", "[I", true)
  | 2 => ("SeaMeeting$Sailing", "known", "I", false)
  | _ => ("SeaMeeting$Sailing", "routed", "Z", false)
def tyX1 : Nat → FieldType := fun k => match k with
  | 0 => .array (.array .int)
  | 1 => .array .int
  | 2 => .int
  | _ => .boolean
theorem nmX1 : ∀ a, a < 4 → ∀ b, b < 4 → a ≠ b → (TX1 a).2.1 ≠ (TX1 b).2.1 := by decide +kernel
theorem tyX1_ok : ∀ k, k < 4 → parseFieldDescriptor (TX1 k).2.2.1 = some (tyX1 k) := by decide +kernel
abbrev cX1_init : ByteArray := prog_3_method_1_code
def yX1_init : MethodName := ⟨RX1, "<init>", "()V"⟩
abbrev cX1_forget : ByteArray := prog_3_method_2_code
def yX1_forget : MethodName := ⟨RX1, "forget", "()V"⟩
def RX2 : String := "SeaMeeting$Teller"
def TX2 : u_T := fun k => match k with
  | 0 => ("SeaMeeting$Teller", "bytes", "[I", true)
  | 1 => ("SeaMeeting$Teller", "draft", "LSeaMeeting$World;", true)
  | 2 => ("SeaMeeting$Teller", "end", "I", false)
  | 3 => ("SeaMeeting$Teller", "place", "I", false)
  | 4 => ("SeaMeeting$Teller", "start", "I", false)
  | 5 => ("SeaMeeting$Teller", "value", "I", false)
  | 6 => ("SeaMeeting$Teller", "spot", "I", false)
  | 7 => ("SeaMeeting$Teller", "spotStart", "I", false)
  | 8 => ("SeaMeeting$Teller", "listed", "I", false)
  | 9 => ("SeaMeeting$Teller", "fault", "I", false)
  | 10 => ("SeaMeeting$Teller", "faultPlace", "I", false)
  | 11 => ("SeaMeeting$Teller", "drifterTold", "Z", false)
  | 12 => ("SeaMeeting$Teller", "portTold", "Z", false)
  | 13 => ("SeaMeeting$Teller", "windTold", "Z", false)
  | _ => ("SeaMeeting$Teller", "tankTold", "Z", false)
def tyX2 : Nat → FieldType := fun k => match k with
  | 0 => .array .int
  | 1 => .object "SeaMeeting$World"
  | 2 => .int
  | 3 => .int
  | 4 => .int
  | 5 => .int
  | 6 => .int
  | 7 => .int
  | 8 => .int
  | 9 => .int
  | 10 => .int
  | 11 => .boolean
  | 12 => .boolean
  | 13 => .boolean
  | _ => .boolean
theorem nmX2 : ∀ a, a < 15 → ∀ b, b < 15 → a ≠ b → (TX2 a).2.1 ≠ (TX2 b).2.1 := by decide +kernel
theorem tyX2_ok : ∀ k, k < 15 → parseFieldDescriptor (TX2 k).2.2.1 = some (tyX2 k) := by decide +kernel
abbrev cX2_init : ByteArray := prog_4_method_1_code
def yX2_init : MethodName := ⟨RX2, "<init>", "([ILSeaMeeting$World;)V"⟩
abbrev cX2_readText : ByteArray := prog_4_method_2_code
def yX2_readText : MethodName := ⟨RX2, "readText", "(I)I"⟩
abbrev cX2_begin : ByteArray := prog_4_method_3_code
def yX2_begin : MethodName := ⟨RX2, "begin", "(I)V"⟩
abbrev cX2_fail : ByteArray := prog_4_method_4_code
def yX2_fail : MethodName := ⟨RX2, "fail", "(II)Z"⟩
abbrev cX2_readSea : ByteArray := prog_4_method_5_code
def yX2_readSea : MethodName := ⟨RX2, "readSea", "()Z"⟩
abbrev cX2_readSentence : ByteArray := prog_4_method_6_code
def yX2_readSentence : MethodName := ⟨RX2, "readSentence", "()Z"⟩
abbrev cX2_readLand : ByteArray := prog_4_method_7_code
def yX2_readLand : MethodName := ⟨RX2, "readLand", "()Z"⟩
abbrev cX2_readCurrent : ByteArray := prog_4_method_8_code
def yX2_readCurrent : MethodName := ⟨RX2, "readCurrent", "()Z"⟩
abbrev cX2_readWind : ByteArray := prog_4_method_9_code
def yX2_readWind : MethodName := ⟨RX2, "readWind", "()Z"⟩
abbrev cX2_readDrifter : ByteArray := prog_4_method_10_code
def yX2_readDrifter : MethodName := ⟨RX2, "readDrifter", "()Z"⟩
abbrev cX2_readHelper : ByteArray := prog_4_method_11_code
def yX2_readHelper : MethodName := ⟨RX2, "readHelper", "()Z"⟩
abbrev cX2_readPort : ByteArray := prog_4_method_12_code
def yX2_readPort : MethodName := ⟨RX2, "readPort", "()Z"⟩
abbrev cX2_readTank : ByteArray := prog_4_method_13_code
def yX2_readTank : MethodName := ⟨RX2, "readTank", "()Z"⟩
abbrev cX2_readCell : ByteArray := prog_4_method_14_code
def yX2_readCell : MethodName := ⟨RX2, "readCell", "()Z"⟩
abbrev cX2_isWater : ByteArray := prog_4_method_15_code
def yX2_isWater : MethodName := ⟨RX2, "isWater", "()Z"⟩
abbrev cX2_readDirections : ByteArray := prog_4_method_16_code
def yX2_readDirections : MethodName := ⟨RX2, "readDirections", "([II)Z"⟩
abbrev cX2_isDirection : ByteArray := prog_4_method_17_code
def yX2_isDirection : MethodName := ⟨RX2, "isDirection", "()Z"⟩
abbrev cX2_wordOf : ByteArray := prog_4_method_18_code
def yX2_wordOf : MethodName := ⟨RX2, "wordOf", "(I)Ljava/lang/String;"⟩
abbrev cX2_readWord : ByteArray := prog_4_method_19_code
def yX2_readWord : MethodName := ⟨RX2, "readWord", "()Z"⟩
abbrev cX2_isWord : ByteArray := prog_4_method_20_code
def yX2_isWord : MethodName := ⟨RX2, "isWord", "(Ljava/lang/String;)Z"⟩
abbrev cX2_readNumber : ByteArray := prog_4_method_21_code
def yX2_readNumber : MethodName := ⟨RX2, "readNumber", "(II)Z"⟩
abbrev cX2_isEnd : ByteArray := prog_4_method_22_code
def yX2_isEnd : MethodName := ⟨RX2, "isEnd", "()Z"⟩
abbrev cX2_readEnd : ByteArray := prog_4_method_23_code
def yX2_readEnd : MethodName := ⟨RX2, "readEnd", "()Z"⟩
abbrev cX2_isMore : ByteArray := prog_4_method_24_code
def yX2_isMore : MethodName := ⟨RX2, "isMore", "()Z"⟩
abbrev cX2_skipBlanks : ByteArray := prog_4_method_25_code
def yX2_skipBlanks : MethodName := ⟨RX2, "skipBlanks", "()V"⟩
abbrev cX2_byteAt : ByteArray := prog_4_method_26_code
def yX2_byteAt : MethodName := ⟨RX2, "byteAt", "(I)I"⟩
def RX3 : String := "SeaMeeting$World"
def TX3 : u_T := fun k => match k with
  | 0 => ("SeaMeeting$World", "wide", "I", false)
  | 1 => ("SeaMeeting$World", "high", "I", false)
  | 2 => ("SeaMeeting$World", "time", "I", false)
  | 3 => ("SeaMeeting$World", "tank", "I", false)
  | 4 => ("SeaMeeting$World", "leeway", "I", false)
  | 5 => ("SeaMeeting$World", "drifter", "I", false)
  | 6 => ("SeaMeeting$World", "port", "I", false)
  | 7 => ("SeaMeeting$World", "helpers", "I", false)
  | 8 => ("SeaMeeting$World", "winds", "I", false)
  | 9 => ("SeaMeeting$World", "turns", "I", false)
  | 10 => ("SeaMeeting$World", "places", "[I", true)
  | 11 => ("SeaMeeting$World", "stores", "[I", true)
  | 12 => ("SeaMeeting$World", "lands", "[I", true)
  | 13 => ("SeaMeeting$World", "currents", "[I", true)
  | 14 => ("SeaMeeting$World", "windRow", "[I", true)
  | 15 => ("SeaMeeting$World", "turnRow", "[I", true)
  | _ => ("SeaMeeting$World", "windsByHand", "[I", true)
def tyX3 : Nat → FieldType := fun k => match k with
  | 0 => .int
  | 1 => .int
  | 2 => .int
  | 3 => .int
  | 4 => .int
  | 5 => .int
  | 6 => .int
  | 7 => .int
  | 8 => .int
  | 9 => .int
  | 10 => .array .int
  | 11 => .array .int
  | 12 => .array .int
  | 13 => .array .int
  | 14 => .array .int
  | 15 => .array .int
  | _ => .array .int
theorem nmX3 : ∀ a, a < 17 → ∀ b, b < 17 → a ≠ b → (TX3 a).2.1 ≠ (TX3 b).2.1 := by decide +kernel
theorem tyX3_ok : ∀ k, k < 17 → parseFieldDescriptor (TX3 k).2.2.1 = some (tyX3 k) := by decide +kernel
abbrev cX3_init : ByteArray := prog_5_method_1_code
def yX3_init : MethodName := ⟨RX3, "<init>", "()V"⟩
abbrev cX3_beginEmpty : ByteArray := prog_5_method_2_code
def yX3_beginEmpty : MethodName := ⟨RX3, "beginEmpty", "()V"⟩
abbrev cX3_beginSmall : ByteArray := prog_5_method_3_code
def yX3_beginSmall : MethodName := ⟨RX3, "beginSmall", "()V"⟩
abbrev cX3_become : ByteArray := prog_5_method_4_code
def yX3_become : MethodName := ⟨RX3, "become", "(LSeaMeeting$World;)V"⟩
abbrev cX3_copyRow : ByteArray := prog_5_method_5_code
def yX3_copyRow : MethodName := ⟨RX3, "copyRow", "([I[I)V"⟩
abbrev cX3_addHelper : ByteArray := prog_5_method_6_code
def yX3_addHelper : MethodName := ⟨RX3, "addHelper", "(II)V"⟩
abbrev cX3_cellAt : ByteArray := prog_5_method_7_code
def yX3_cellAt : MethodName := ⟨RX3, "cellAt", "(II)I"⟩
abbrev cX3_xOf : ByteArray := prog_5_method_8_code
def yX3_xOf : MethodName := ⟨RX3, "xOf", "(I)I"⟩
abbrev cX3_yOf : ByteArray := prog_5_method_9_code
def yX3_yOf : MethodName := ⟨RX3, "yOf", "(I)I"⟩
abbrev cX3_isOnSea : ByteArray := prog_5_method_10_code
def yX3_isOnSea : MethodName := ⟨RX3, "isOnSea", "(II)Z"⟩
abbrev cX3_countLand : ByteArray := prog_5_method_11_code
def yX3_countLand : MethodName := ⟨RX3, "countLand", "()I"⟩
abbrev cX3_stepFrom : ByteArray := prog_5_method_12_code
def yX3_stepFrom : MethodName := ⟨RX3, "stepFrom", "(II)I"⟩
abbrev cX3_carriedFrom : ByteArray := prog_5_method_13_code
def yX3_carriedFrom : MethodName := ⟨RX3, "carriedFrom", "(II)I"⟩
abbrev cX3_drifterBehind : ByteArray := prog_5_method_14_code
def yX3_drifterBehind : MethodName := ⟨RX3, "drifterBehind", "(II)I"⟩
abbrev cX3_portBehind : ByteArray := prog_5_method_15_code
def yX3_portBehind : MethodName := ⟨RX3, "portBehind", "(II)I"⟩
abbrev cX3_helperBehind : ByteArray := prog_5_method_16_code
def yX3_helperBehind : MethodName := ⟨RX3, "helperBehind", "(II)I"⟩
abbrev cX3_windOf : ByteArray := prog_5_method_17_code
def yX3_windOf : MethodName := ⟨RX3, "windOf", "(I)I"⟩
abbrev cX3_priceOf : ByteArray := prog_5_method_18_code
def yX3_priceOf : MethodName := ⟨RX3, "priceOf", "(II)I"⟩
abbrev cX3_canSail : ByteArray := prog_5_method_19_code
def yX3_canSail : MethodName := ⟨RX3, "canSail", "(II)Z"⟩
abbrev cX3_sail : ByteArray := prog_5_method_20_code
def yX3_sail : MethodName := ⟨RX3, "sail", "(II)V"⟩
abbrev cX3_passHour : ByteArray := prog_5_method_21_code
def yX3_passHour : MethodName := ⟨RX3, "passHour", "()V"⟩
abbrev cX3_meetingBits : ByteArray := prog_5_method_22_code
def yX3_meetingBits : MethodName := ⟨RX3, "meetingBits", "()I"⟩
abbrev cX3_isTaken : ByteArray := prog_5_method_23_code
def yX3_isTaken : MethodName := ⟨RX3, "isTaken", "(I)Z"⟩
def RX4 : String := "SeaMeeting"
def TX4 : u_T := fun k => match k with
  | 0 => ("SeaMeeting", "tape", "[I", true)
  | 1 => ("SeaMeeting", "world", "LSeaMeeting$World;", true)
  | 2 => ("SeaMeeting", "draft", "LSeaMeeting$World;", true)
  | 3 => ("SeaMeeting", "teller", "LSeaMeeting$Teller;", true)
  | 4 => ("SeaMeeting", "outlook", "LSeaMeeting$Outlook;", true)
  | 5 => ("SeaMeeting", "kept", "[LSeaMeeting$World;", true)
  | 6 => ("SeaMeeting", "tapeBytes", "I", false)
  | 7 => ("SeaMeeting", "faultPlace", "I", false)
  | 8 => ("SeaMeeting", "keptNext", "I", false)
  | 9 => ("SeaMeeting", "keptCount", "I", false)
  | 10 => ("SeaMeeting", "refusedElements", "I", false)
  | 11 => ("SeaMeeting", "refusedArguments", "I", false)
  | _ => ("SeaMeeting", "refusedStates", "I", false)
def tyX4 : Nat → FieldType := fun k => match k with
  | 0 => .array .int
  | 1 => .object "SeaMeeting$World"
  | 2 => .object "SeaMeeting$World"
  | 3 => .object "SeaMeeting$Teller"
  | 4 => .object "SeaMeeting$Outlook"
  | 5 => .array (.object "SeaMeeting$World")
  | 6 => .int
  | 7 => .int
  | 8 => .int
  | 9 => .int
  | 10 => .int
  | 11 => .int
  | _ => .int
theorem nmX4 : ∀ a, a < 13 → ∀ b, b < 13 → a ≠ b → (TX4 a).2.1 ≠ (TX4 b).2.1 := by decide +kernel
theorem tyX4_ok : ∀ k, k < 13 → parseFieldDescriptor (TX4 k).2.2.1 = some (tyX4 k) := by decide +kernel
abbrev cX4_init : ByteArray := prog_1_method_1_code
def yX4_init : MethodName := ⟨RX4, "<init>", "()V"⟩
abbrev cX4_feed : ByteArray := prog_1_method_2_code
def yX4_feed : MethodName := ⟨RX4, "feed", "(IIIII)I"⟩
abbrev cX4_text : ByteArray := prog_1_method_3_code
def yX4_text : MethodName := ⟨RX4, "text", "(I)I"⟩
abbrev cX4_fault : ByteArray := prog_1_method_4_code
def yX4_fault : MethodName := ⟨RX4, "fault", "()I"⟩
abbrev cX4_hour : ByteArray := prog_1_method_5_code
def yX4_hour : MethodName := ⟨RX4, "hour", "(III)I"⟩
abbrev cX4_fuel : ByteArray := prog_1_method_6_code
def yX4_fuel : MethodName := ⟨RX4, "fuel", "(II)I"⟩
abbrev cX4_wind : ByteArray := prog_1_method_7_code
def yX4_wind : MethodName := ⟨RX4, "wind", "(II)I"⟩
abbrev cX4_undo : ByteArray := prog_1_method_8_code
def yX4_undo : MethodName := ⟨RX4, "undo", "()I"⟩
abbrev cX4_told : ByteArray := prog_1_method_9_code
def yX4_told : MethodName := ⟨RX4, "told", "(I)I"⟩
abbrev cX4_cell : ByteArray := prog_1_method_10_code
def yX4_cell : MethodName := ⟨RX4, "cell", "(III)I"⟩
abbrev cX4_blows : ByteArray := prog_1_method_11_code
def yX4_blows : MethodName := ⟨RX4, "blows", "(I)I"⟩
abbrev cX4_helper : ByteArray := prog_1_method_12_code
def yX4_helper : MethodName := ⟨RX4, "helper", "(II)I"⟩
abbrev cX4_drift : ByteArray := prog_1_method_13_code
def yX4_drift : MethodName := ⟨RX4, "drift", "(II)I"⟩
abbrev cX4_cost : ByteArray := prog_1_method_14_code
def yX4_cost : MethodName := ⟨RX4, "cost", "(II)I"⟩
abbrev cX4_meet : ByteArray := prog_1_method_15_code
def yX4_meet : MethodName := ⟨RX4, "meet", "(II)I"⟩
abbrev cX4_route : ByteArray := prog_1_method_16_code
def yX4_route : MethodName := ⟨RX4, "route", "(II)I"⟩
abbrev cX4_first : ByteArray := prog_1_method_17_code
def yX4_first : MethodName := ⟨RX4, "first", "()I"⟩
abbrev cX4_least : ByteArray := prog_1_method_18_code
def yX4_least : MethodName := ⟨RX4, "least", "(II)I"⟩
abbrev cX4_reach : ByteArray := prog_1_method_19_code
def yX4_reach : MethodName := ⟨RX4, "reach", "(II)I"⟩
abbrev cX4_most : ByteArray := prog_1_method_20_code
def yX4_most : MethodName := ⟨RX4, "most", "(IIII)I"⟩
abbrev cX4_relay : ByteArray := prog_1_method_21_code
def yX4_relay : MethodName := ⟨RX4, "relay", "(II)I"⟩
abbrev cX4_home : ByteArray := prog_1_method_22_code
def yX4_home : MethodName := ⟨RX4, "home", "(II)I"⟩
abbrev cX4_print : ByteArray := prog_1_method_23_code
def yX4_print : MethodName := ⟨RX4, "print", "()J"⟩
abbrev cX4_status : ByteArray := prog_1_method_24_code
def yX4_status : MethodName := ⟨RX4, "status", "(I)I"⟩
abbrev cX4_needHelper : ByteArray := prog_1_method_25_code
def yX4_needHelper : MethodName := ⟨RX4, "needHelper", "(I)V"⟩
abbrev cX4_needNumber : ByteArray := prog_1_method_26_code
def yX4_needNumber : MethodName := ⟨RX4, "needNumber", "(Z)V"⟩
abbrev cX4_needState : ByteArray := prog_1_method_27_code
def yX4_needState : MethodName := ⟨RX4, "needState", "(Z)V"⟩
abbrev cX4_isCourseOf : ByteArray := prog_1_method_28_code
def yX4_isCourseOf : MethodName := ⟨RX4, "isCourseOf", "(II)Z"⟩
abbrev cX4_putBytes : ByteArray := prog_1_method_29_code
def yX4_putBytes : MethodName := ⟨RX4, "putBytes", "(I)V"⟩
abbrev cX4_keepWorld : ByteArray := prog_1_method_30_code
def yX4_keepWorld : MethodName := ⟨RX4, "keepWorld", "()V"⟩
abbrev cX4_isIn : ByteArray := prog_1_method_31_code
def yX4_isIn : MethodName := ⟨RX4, "isIn", "(III)Z"⟩
abbrev cX4_read : ByteArray := prog_1_method_32_code
def yX4_read : MethodName := ⟨RX4, "read", "([II)I"⟩
abbrev cX4_write : ByteArray := prog_1_method_33_code
def yX4_write : MethodName := ⟨RX4, "write", "([III)V"⟩
def RX5 : String := "SeaMeetingModel"
def TX5 : u_T := fun k => match k with
  | 0 => ("SeaMeetingModel", "thrown", "I", false)
  | 1 => ("SeaMeetingModel", "refused", "[I", true)
  | 2 => ("SeaMeetingModel", "tape", "I", false)
  | 3 => ("SeaMeetingModel", "size", "I", false)
  | 4 => ("SeaMeetingModel", "at", "I", false)
  | 5 => ("SeaMeetingModel", "place", "I", false)
  | 6 => ("SeaMeetingModel", "fault", "I", false)
  | 7 => ("SeaMeetingModel", "faultAt", "I", false)
  | 8 => ("SeaMeetingModel", "fed", "[I", true)
  | 9 => ("SeaMeetingModel", "now", "[I", true)
  | 10 => ("SeaMeetingModel", "told", "[I", true)
  | 11 => ("SeaMeetingModel", "past", "[[I", true)
  | 12 => ("SeaMeetingModel", "backs", "I", false)
  | 13 => ("SeaMeetingModel", "cellRead", "I", false)
  | 14 => ("SeaMeetingModel", "once", "I", false)
  | 15 => ("SeaMeetingModel", "drifts", "[I", true)
  | 16 => ("SeaMeetingModel", "ports", "[I", true)
  | 17 => ("SeaMeetingModel", "costs", "[[I", true)
  | 18 => ("SeaMeetingModel", "others", "[[I", true)
  | _ => ("SeaMeetingModel", "left", "[[I", true)
def tyX5 : Nat → FieldType := fun k => match k with
  | 0 => .int
  | 1 => .array .int
  | 2 => .int
  | 3 => .int
  | 4 => .int
  | 5 => .int
  | 6 => .int
  | 7 => .int
  | 8 => .array .int
  | 9 => .array .int
  | 10 => .array .int
  | 11 => .array (.array .int)
  | 12 => .int
  | 13 => .int
  | 14 => .int
  | 15 => .array .int
  | 16 => .array .int
  | 17 => .array (.array .int)
  | 18 => .array (.array .int)
  | _ => .array (.array .int)
theorem nmX5 : ∀ a, a < 20 → ∀ b, b < 20 → a ≠ b → (TX5 a).2.1 ≠ (TX5 b).2.1 := by decide +kernel
theorem tyX5_ok : ∀ k, k < 20 → parseFieldDescriptor (TX5 k).2.2.1 = some (tyX5 k) := by decide +kernel
abbrev cX5_init : ByteArray := prog_7_method_1_code
def yX5_init : MethodName := ⟨RX5, "<init>", "()V"⟩
abbrev cX5_begins : ByteArray := prog_7_method_2_code
def yX5_begins : MethodName := ⟨RX5, "begins", "([I)V"⟩
abbrev cX5_thrown : ByteArray := prog_7_method_3_code
def yX5_thrown : MethodName := ⟨RX5, "thrown", "()I"⟩
abbrev cX5_bad : ByteArray := prog_7_method_4_code
def yX5_bad : MethodName := ⟨RX5, "bad", "(ZII)Z"⟩
abbrev cX5_in : ByteArray := prog_7_method_5_code
def yX5_in : MethodName := ⟨RX5, "in", "(III)Z"⟩
abbrev cX5_less : ByteArray := prog_7_method_6_code
def yX5_less : MethodName := ⟨RX5, "less", "(II)I"⟩
abbrev cX5_feed : ByteArray := prog_7_method_7_code
def yX5_feed : MethodName := ⟨RX5, "feed", "(IIIII)I"⟩
abbrev cX5_copies : ByteArray := prog_7_method_8_code
def yX5_copies : MethodName := ⟨RX5, "copies", "([I[I)V"⟩
abbrev cX5_cellAt : ByteArray := prog_7_method_9_code
def yX5_cellAt : MethodName := ⟨RX5, "cellAt", "(II)I"⟩
abbrev cX5_eastOf : ByteArray := prog_7_method_10_code
def yX5_eastOf : MethodName := ⟨RX5, "eastOf", "(I)I"⟩
abbrev cX5_northOf : ByteArray := prog_7_method_11_code
def yX5_northOf : MethodName := ⟨RX5, "northOf", "(I)I"⟩
abbrev cX5_isOn : ByteArray := prog_7_method_12_code
def yX5_isOn : MethodName := ⟨RX5, "isOn", "([III)Z"⟩
abbrev cX5_goes : ByteArray := prog_7_method_13_code
def yX5_goes : MethodName := ⟨RX5, "goes", "([III)Z"⟩
abbrev cX5_behind : ByteArray := prog_7_method_14_code
def yX5_behind : MethodName := ⟨RX5, "behind", "([III)I"⟩
abbrev cX5_windOf : ByteArray := prog_7_method_15_code
def yX5_windOf : MethodName := ⟨RX5, "windOf", "([II)I"⟩
abbrev cX5_carried : ByteArray := prog_7_method_16_code
def yX5_carried : MethodName := ⟨RX5, "carried", "([III)I"⟩
abbrev cX5_drifted : ByteArray := prog_7_method_17_code
def yX5_drifted : MethodName := ⟨RX5, "drifted", "([III)I"⟩
abbrev cX5_portBehind : ByteArray := prog_7_method_18_code
def yX5_portBehind : MethodName := ⟨RX5, "portBehind", "([III)I"⟩
abbrev cX5_costBy : ByteArray := prog_7_method_19_code
def yX5_costBy : MethodName := ⟨RX5, "costBy", "(II)I"⟩
abbrev cX5_byteAt : ByteArray := prog_7_method_20_code
def yX5_byteAt : MethodName := ⟨RX5, "byteAt", "(I)I"⟩
abbrev cX5_here : ByteArray := prog_7_method_21_code
def yX5_here : MethodName := ⟨RX5, "here", "()I"⟩
abbrev cX5_fine : ByteArray := prog_7_method_22_code
def yX5_fine : MethodName := ⟨RX5, "fine", "()Z"⟩
abbrev cX5_wrong : ByteArray := prog_7_method_23_code
def yX5_wrong : MethodName := ⟨RX5, "wrong", "(II)V"⟩
abbrev cX5_isSmall : ByteArray := prog_7_method_24_code
def yX5_isSmall : MethodName := ⟨RX5, "isSmall", "(I)Z"⟩
abbrev cX5_isDigit : ByteArray := prog_7_method_25_code
def yX5_isDigit : MethodName := ⟨RX5, "isDigit", "(I)Z"⟩
abbrev cX5_isWord : ByteArray := prog_7_method_26_code
def yX5_isWord : MethodName := ⟨RX5, "isWord", "(Ljava/lang/String;)Z"⟩
abbrev cX5_takes : ByteArray := prog_7_method_27_code
def yX5_takes : MethodName := ⟨RX5, "takes", "(Ljava/lang/String;)Z"⟩
abbrev cX5_number : ByteArray := prog_7_method_28_code
def yX5_number : MethodName := ⟨RX5, "number", "(II)I"⟩
abbrev cX5_wordOf : ByteArray := prog_7_method_29_code
def yX5_wordOf : MethodName := ⟨RX5, "wordOf", "(I)Ljava/lang/String;"⟩
abbrev cX5_direction : ByteArray := prog_7_method_30_code
def yX5_direction : MethodName := ⟨RX5, "direction", "()I"⟩
abbrev cX5_directions : ByteArray := prog_7_method_31_code
def yX5_directions : MethodName := ⟨RX5, "directions", "(III)I"⟩
abbrev cX5_readsCell : ByteArray := prog_7_method_32_code
def yX5_readsCell : MethodName := ⟨RX5, "readsCell", "(Z)V"⟩
abbrev cX5_takesOnce : ByteArray := prog_7_method_33_code
def yX5_takesOnce : MethodName := ⟨RX5, "takesOnce", "(Ljava/lang/String;I)Z"⟩
abbrev cX5_isTold : ByteArray := prog_7_method_34_code
def yX5_isTold : MethodName := ⟨RX5, "isTold", "(I)Z"⟩
abbrev cX5_readsLand : ByteArray := prog_7_method_35_code
def yX5_readsLand : MethodName := ⟨RX5, "readsLand", "()V"⟩
abbrev cX5_readsCurrent : ByteArray := prog_7_method_36_code
def yX5_readsCurrent : MethodName := ⟨RX5, "readsCurrent", "()V"⟩
abbrev cX5_readsHelper : ByteArray := prog_7_method_37_code
def yX5_readsHelper : MethodName := ⟨RX5, "readsHelper", "(I)V"⟩
abbrev cX5_readsLine : ByteArray := prog_7_method_38_code
def yX5_readsLine : MethodName := ⟨RX5, "readsLine", "()V"⟩
abbrev cX5_must : ByteArray := prog_7_method_39_code
def yX5_must : MethodName := ⟨RX5, "must", "(I)V"⟩
abbrev cX5_text : ByteArray := prog_7_method_40_code
def yX5_text : MethodName := ⟨RX5, "text", "(I)I"⟩
abbrev cX5_fault : ByteArray := prog_7_method_41_code
def yX5_fault : MethodName := ⟨RX5, "fault", "()I"⟩
abbrev cX5_remembers : ByteArray := prog_7_method_42_code
def yX5_remembers : MethodName := ⟨RX5, "remembers", "()V"⟩
abbrev cX5_undo : ByteArray := prog_7_method_43_code
def yX5_undo : MethodName := ⟨RX5, "undo", "()I"⟩
abbrev cX5_isHelper : ByteArray := prog_7_method_44_code
def yX5_isHelper : MethodName := ⟨RX5, "isHelper", "(I)Z"⟩
abbrev cX5_helperCell : ByteArray := prog_7_method_45_code
def yX5_helperCell : MethodName := ⟨RX5, "helperCell", "(I)I"⟩
abbrev cX5_fuelOf : ByteArray := prog_7_method_46_code
def yX5_fuelOf : MethodName := ⟨RX5, "fuelOf", "(I)I"⟩
abbrev cX5_drifterCell : ByteArray := prog_7_method_47_code
def yX5_drifterCell : MethodName := ⟨RX5, "drifterCell", "()I"⟩
abbrev cX5_isCourse : ByteArray := prog_7_method_48_code
def yX5_isCourse : MethodName := ⟨RX5, "isCourse", "(II)Z"⟩
abbrev cX5_canGo : ByteArray := prog_7_method_49_code
def yX5_canGo : MethodName := ⟨RX5, "canGo", "(II)Z"⟩
abbrev cX5_helperGoes : ByteArray := prog_7_method_50_code
def yX5_helperGoes : MethodName := ⟨RX5, "helperGoes", "(II)V"⟩
abbrev cX5_hour : ByteArray := prog_7_method_51_code
def yX5_hour : MethodName := ⟨RX5, "hour", "(III)I"⟩
abbrev cX5_fuel : ByteArray := prog_7_method_52_code
def yX5_fuel : MethodName := ⟨RX5, "fuel", "(II)I"⟩
abbrev cX5_wind : ByteArray := prog_7_method_53_code
def yX5_wind : MethodName := ⟨RX5, "wind", "(II)I"⟩
abbrev cX5_told : ByteArray := prog_7_method_54_code
def yX5_told : MethodName := ⟨RX5, "told", "(I)I"⟩
abbrev cX5_cell : ByteArray := prog_7_method_55_code
def yX5_cell : MethodName := ⟨RX5, "cell", "(III)I"⟩
abbrev cX5_blows : ByteArray := prog_7_method_56_code
def yX5_blows : MethodName := ⟨RX5, "blows", "(I)I"⟩
abbrev cX5_helper : ByteArray := prog_7_method_57_code
def yX5_helper : MethodName := ⟨RX5, "helper", "(II)I"⟩
abbrev cX5_looksAhead : ByteArray := prog_7_method_58_code
def yX5_looksAhead : MethodName := ⟨RX5, "looksAhead", "()V"⟩
abbrev cX5_drift : ByteArray := prog_7_method_59_code
def yX5_drift : MethodName := ⟨RX5, "drift", "(II)I"⟩
abbrev cX5_cost : ByteArray := prog_7_method_60_code
def yX5_cost : MethodName := ⟨RX5, "cost", "(II)I"⟩
abbrev cX5_empties : ByteArray := prog_7_method_61_code
def yX5_empties : MethodName := ⟨RX5, "empties", "([I)V"⟩
abbrev cX5_spreads : ByteArray := prog_7_method_62_code
def yX5_spreads : MethodName := ⟨RX5, "spreads", "([[III)V"⟩
abbrev cX5_leads : ByteArray := prog_7_method_63_code
def yX5_leads : MethodName := ⟨RX5, "leads", "(II)V"⟩
abbrev cX5_earliest : ByteArray := prog_7_method_64_code
def yX5_earliest : MethodName := ⟨RX5, "earliest", "(I)I"⟩
abbrev cX5_meet : ByteArray := prog_7_method_65_code
def yX5_meet : MethodName := ⟨RX5, "meet", "(II)I"⟩
abbrev cX5_route : ByteArray := prog_7_method_66_code
def yX5_route : MethodName := ⟨RX5, "route", "(II)I"⟩
abbrev cX5_first : ByteArray := prog_7_method_67_code
def yX5_first : MethodName := ⟨RX5, "first", "()I"⟩
abbrev cX5_least : ByteArray := prog_7_method_68_code
def yX5_least : MethodName := ⟨RX5, "least", "(II)I"⟩
abbrev cX5_reach : ByteArray := prog_7_method_69_code
def yX5_reach : MethodName := ⟨RX5, "reach", "(II)I"⟩
abbrev cX5_most : ByteArray := prog_7_method_70_code
def yX5_most : MethodName := ⟨RX5, "most", "(IIII)I"⟩
abbrev cX5_relay : ByteArray := prog_7_method_71_code
def yX5_relay : MethodName := ⟨RX5, "relay", "(II)I"⟩
abbrev cX5_home : ByteArray := prog_7_method_72_code
def yX5_home : MethodName := ⟨RX5, "home", "(II)I"⟩
abbrev cX5_numberOf : ByteArray := prog_7_method_73_code
def yX5_numberOf : MethodName := ⟨RX5, "numberOf", "([III)I"⟩
abbrev cX5_print : ByteArray := prog_7_method_74_code
def yX5_print : MethodName := ⟨RX5, "print", "()J"⟩
abbrev cX5_status : ByteArray := prog_7_method_75_code
def yX5_status : MethodName := ⟨RX5, "status", "(I)I"⟩
def RJ9 : String := "java/lang/Math"
abbrev cJ9_abs_0f7a4 : ByteArray := prog_14_method_59_code
def yJ9_abs_0f7a4 : MethodName := ⟨RJ9, "abs", "(I)I"⟩
abbrev cJ9_max_7cf53 : ByteArray := prog_14_method_65_code
def yJ9_max_7cf53 : MethodName := ⟨RJ9, "max", "(II)I"⟩
abbrev cJ9_min_7cf53 : ByteArray := prog_14_method_69_code
def yJ9_min_7cf53 : MethodName := ⟨RJ9, "min", "(II)I"⟩
def RJ0 : String := "java/lang/String"
abbrev cJ0_length_8abf5 : ByteArray := prog_16_method_54_code
def yJ0_length_8abf5 : MethodName := ⟨RJ0, "length", "()I"⟩
abbrev cJ0_charAt_5068e : ByteArray := prog_16_method_56_code
def yJ0_charAt_5068e : MethodName := ⟨RJ0, "charAt", "(I)C"⟩
abbrev cJ0_coder_7d493 : ByteArray := prog_16_method_152_code
def yJ0_coder_7d493 : MethodName := ⟨RJ0, "coder", "()B"⟩
abbrev cJ0_isLatin1_aae02 : ByteArray := prog_16_method_154_code
def yJ0_isLatin1_aae02 : MethodName := ⟨RJ0, "isLatin1", "()Z"⟩
abbrev cJ0_checkIndex_df160 : ByteArray := prog_16_method_155_code
def yJ0_checkIndex_df160 : MethodName := ⟨RJ0, "checkIndex", "(II)V"⟩
def RJ1 : String := "java/lang/StringLatin1"
abbrev cJ1_charAt_3b067 : ByteArray := prog_17_method_2_code
def yJ1_charAt_3b067 : MethodName := ⟨RJ1, "charAt", "([BI)C"⟩
def RJ2 : String := "java/lang/StringUTF16"
abbrev cJ2_getChar_3b067 : ByteArray := prog_18_method_5_code
def yJ2_getChar_3b067 : MethodName := ⟨RJ2, "getChar", "([BI)C"⟩
abbrev cJ2_length_9d52b : ByteArray := prog_18_method_6_code
def yJ2_length_9d52b : MethodName := ⟨RJ2, "length", "([B)I"⟩
abbrev cJ2_charAt_3b067 : ByteArray := prog_18_method_83_code
def yJ2_charAt_3b067 : MethodName := ⟨RJ2, "charAt", "([BI)C"⟩
abbrev cJ2_checkIndex_2214a : ByteArray := prog_18_method_91_code
def yJ2_checkIndex_2214a : MethodName := ⟨RJ2, "checkIndex", "(I[B)V"⟩
def RJ10 : String := "java/lang/System"
def RJ7 : String := "java/util/Arrays"
abbrev cJ7_fill_53178 : ByteArray := prog_23_method_103_code
def yJ7_fill_53178 : MethodName := ⟨RJ7, "fill", "([II)V"⟩
def RJ3 : String := "jdk/internal/util/Preconditions"
abbrev cJ3_checkIndex_8e157 : ByteArray := prog_25_method_11_code
def yJ3_checkIndex_8e157 : MethodName := ⟨RJ3, "checkIndex", "(IILjava/util/function/BiFunction;)I"⟩
def RL : String := "SeaMeetingLaw"
abbrev cL_text : ByteArray := method_3_code
def yL_text : MethodName := ⟨RL, "text", "(LSeaMeeting;I[J)I"⟩
abbrev cL_hour : ByteArray := method_4_code
def yL_hour : MethodName := ⟨RL, "hour", "(LSeaMeeting;III[J)I"⟩
abbrev cL_fuel : ByteArray := method_5_code
def yL_fuel : MethodName := ⟨RL, "fuel", "(LSeaMeeting;II[J)I"⟩
abbrev cL_wind : ByteArray := method_6_code
def yL_wind : MethodName := ⟨RL, "wind", "(LSeaMeeting;II[J)I"⟩
abbrev cL_told : ByteArray := method_7_code
def yL_told : MethodName := ⟨RL, "told", "(LSeaMeeting;I[J)I"⟩
abbrev cL_cell : ByteArray := method_8_code
def yL_cell : MethodName := ⟨RL, "cell", "(LSeaMeeting;III[J)I"⟩
abbrev cL_blows : ByteArray := method_9_code
def yL_blows : MethodName := ⟨RL, "blows", "(LSeaMeeting;I[J)I"⟩
abbrev cL_helper : ByteArray := method_10_code
def yL_helper : MethodName := ⟨RL, "helper", "(LSeaMeeting;II[J)I"⟩
abbrev cL_drift : ByteArray := method_11_code
def yL_drift : MethodName := ⟨RL, "drift", "(LSeaMeeting;II[J)I"⟩
abbrev cL_cost : ByteArray := method_12_code
def yL_cost : MethodName := ⟨RL, "cost", "(LSeaMeeting;II[J)I"⟩
abbrev cL_meet : ByteArray := method_13_code
def yL_meet : MethodName := ⟨RL, "meet", "(LSeaMeeting;II[J)I"⟩
abbrev cL_route : ByteArray := method_14_code
def yL_route : MethodName := ⟨RL, "route", "(LSeaMeeting;II[J)I"⟩
abbrev cL_least : ByteArray := method_15_code
def yL_least : MethodName := ⟨RL, "least", "(LSeaMeeting;II[J)I"⟩
abbrev cL_reach : ByteArray := method_16_code
def yL_reach : MethodName := ⟨RL, "reach", "(LSeaMeeting;II[J)I"⟩
abbrev cL_most : ByteArray := method_17_code
def yL_most : MethodName := ⟨RL, "most", "(LSeaMeeting;IIII[J)I"⟩
abbrev cL_relay : ByteArray := method_18_code
def yL_relay : MethodName := ⟨RL, "relay", "(LSeaMeeting;II[J)I"⟩
abbrev cL_home : ByteArray := method_19_code
def yL_home : MethodName := ⟨RL, "home", "(LSeaMeeting;II[J)I"⟩
abbrev cL_law : ByteArray := code
def yL_law : MethodName := ⟨RL, "law", "([I)Z"⟩
abbrev vwCl : List vw_C := [(RX0, TX0, 10), (RX1, TX1, 4), (RX2, TX2, 15), (RX3, TX3, 17), (RX4, TX4, 13), (RX5, TX5, 20)]
/-- the words that every method of ours is given: all of the tables that stay true as the machine warms -/
def TBL : List Cond := lw_tbl.filter goodWord
theorem tb_in {w : Cond} (i : Nat) (h : tables_1[i]? = some w) (g : goodWord w = true) : w ∈ TBL := List.mem_filter.mpr ⟨List.mem_append_right _ (List.mem_of_getElem? h), g⟩
theorem tb_sel {q : MethodName × Nat} (h : q ∈ lw_privs) : Cond.selects q.1.cls q.1 q.1 ∈ TBL := List.mem_filter.mpr ⟨List.mem_append_left _ (List.mem_map.mpr ⟨q, h, rfl⟩), rfl⟩
theorem tb_good (y : MethodName) (cc : ByteArray) (n : Nat) (r : Option FieldType) (h : Cond.code y cc n r ∈ TBL) {y' : MethodName} {cc' : ByteArray} {n' : Nat} {r' : Option FieldType} : GoodIn (.code y' cc' n' r' :: TBL) (.code y cc n r :: TBL) := by
  intro w hw
  rcases List.mem_cons.mp hw with e | hw
  · rw [e]
    exact ⟨List.mem_cons_of_mem _ h, good_of_word (List.mem_filter.mp h).2⟩
  · exact ⟨List.mem_cons_of_mem _ hw, good_of_word (List.mem_filter.mp hw).2⟩
theorem tb_goodL (y : MethodName) (cc : ByteArray) (n : Nat) (r : Option FieldType) (h : Cond.code y cc n r ∈ TBL) : GoodIn TBL (.code y cc n r :: TBL) := by
  intro w hw
  rcases List.mem_cons.mp hw with e | hw
  · rw [e]
    exact ⟨h, good_of_word (List.mem_filter.mp h).2⟩
  · exact ⟨hw, good_of_word (List.mem_filter.mp hw).2⟩
end
section
/-! the flat heap: every cell of the class and of the reference by its offset from the base -/
/-- kind of the cell at an offset: 0 to 5 objects (as in vwCl), 6 int[], 7 Sailing[], 8 World[], 9 int[][], 10 long[] -/
def kd (k : Nat) : Nat :=
  if k = 0 then 4 else if k = 2 then 3 else if k = 10 then 3 else if k = 18 then 2 else if k = 19 then 0
  else if k = 24 then 7 else if k = 25 then 9 else if k = 87 then 9 else if k = 90 then 1 else if k = 91 then 9
  else if k = 154 then 1 else if k = 155 then 9 else if k = 218 then 1 else if k = 219 then 9 else if k = 282 then 8
  else if 283 ≤ k ∧ k < 347 ∧ (k - 283) % 8 = 0 then 3
  else if k = 347 then 5 else if k = 352 then 9 else if k = 363 then 9 else if k = 425 then 9 else if k = 487 then 9 else if k = 549 then 10 else 6
/-- lengths of a World's rows -/
def wl (j : Nat) : Nat := if j = 1 then 3 else if j = 2 then 3 else if j = 3 then 240 else if j = 4 then 240 else if j = 5 then 24 else if j = 6 then 12 else 561
/-- lengths of arrays -/
def ln (k : Nat) : Nat :=
  if k = 1 then 400 else if k < 10 then wl (k - 2) else if k < 18 then wl (k - 10) else if k = 20 then 61 else if k = 21 then 61
  else if k = 22 then 2160 else if k = 23 then 540 else if k = 24 then 3 else if k = 25 then 61 else if k < 87 then 240 else if k = 87 then 2
  else if k < 90 then 240 else if k < 282 then (if (k - 90) % 64 = 1 then 61 else if (k - 90) % 64 = 63 then 60 else 240)
  else if k = 282 then 8 else if k < 347 then wl ((k - 283) % 8) else if k = 348 then 3 else if k = 349 then 400 else if k = 352 then 8
  else if k < 361 then 1098 else if k < 363 then 61 else if k = 363 then 61 else if k = 425 then 61 else if k = 487 then 61 else if k < 549 then 240 else 1
/-- what the references point at, by place -/
def tgt (k j : Nat) : Nat :=
  if k = 0 then (if j = 0 then 1 else if j = 1 then 2 else if j = 2 then 10 else if j = 3 then 18 else if j = 4 then 19 else 282)
  else if k = 18 then (if j = 0 then 1 else 10)
  else if k = 19 then (if j = 0 then 2 else if j = 1 then 20 else if j = 2 then 21 else if j = 3 then 22 else if j = 4 then 23 else if j = 5 then 24 else if j = 6 then 25 else 87)
  else if k = 24 then 90 + 64 * j
  else if k = 282 then 283 + 8 * j
  else if kd k = 1 then (if j = 0 then k + 1 else k + 63)
  else if k = 347 then (if j = 1 then 348 else if j = 8 then 349 else if j = 9 then 350 else if j = 10 then 351 else if j = 11 then 352 else if j = 15 then 361 else if j = 16 then 362 else if j = 17 then 363 else if j = 18 then 425 else 487)
  else if kd k = 3 then k + (j - 9)
  else k + 1 + j
/-- is the j-th field of a class a reference -/
def isR (c j : Nat) : Bool :=
  if c = 0 then decide (j < 8) else if c = 1 then decide (j < 2) else if c = 2 then decide (j < 2) else if c = 3 then decide (10 ≤ j) else if c = 4 then decide (j < 6)
  else decide (j = 1) || decide (j = 8) || decide (j = 9) || decide (j = 10) || decide (j = 11) || decide (15 ≤ j)
def nf (c : Nat) : Nat := if c = 0 then 10 else if c = 1 then 4 else if c = 2 then 15 else if c = 3 then 17 else if c = 4 then 13 else 20
def tR (c : Nat) : String := if c = 0 then RX0 else if c = 1 then RX1 else if c = 2 then RX2 else if c = 3 then RX3 else if c = 4 then RX4 else RX5
def tT (c : Nat) : u_T := if c = 0 then TX0 else if c = 1 then TX1 else if c = 2 then TX2 else if c = 3 then TX3 else if c = 4 then TX4 else TX5
def tY (c : Nat) : Nat → FieldType := if c = 0 then tyX0 else if c = 1 then tyX1 else if c = 2 then tyX2 else if c = 3 then tyX3 else if c = 4 then tyX4 else tyX5
def tyA (i : Nat) : FieldType := if i = 0 then .int else if i = 1 then .object "SeaMeeting$Sailing" else if i = 2 then .object "SeaMeeting$World" else .array .int
theorem lt6 {P : Nat → Prop} (h0 : P 0) (h1 : P 1) (h2 : P 2) (h3 : P 3) (h4 : P 4) (h5 : P 5) {c : Nat} (h : c < 6) : P c := by
  rcases (show c = 0 ∨ c = 1 ∨ c = 2 ∨ c = 3 ∨ c = 4 ∨ c = 5 by omega) with rfl | rfl | rfl | rfl | rfl | rfl <;> assumption
theorem t_cl {c : Nat} (h : c < 6) : vwCl[c]? = some (tR c, tT c, nf c) := lt6 (P := fun c => vwCl[c]? = some (tR c, tT c, nf c)) rfl rfl rfl rfl rfl rfl h
theorem t_ty {c : Nat} (h : c < 6) : ∀ k, k < nf c → parseFieldDescriptor (tT c k).2.2.1 = some (tY c k) := lt6 (P := fun c => ∀ k, k < nf c → parseFieldDescriptor (tT c k).2.2.1 = some (tY c k)) tyX0_ok tyX1_ok tyX2_ok tyX3_ok tyX4_ok tyX5_ok h
theorem t_nm {c : Nat} (h : c < 6) : ∀ a, a < nf c → ∀ b, b < nf c → a ≠ b → (tT c a).2.1 ≠ (tT c b).2.1 := lt6 (P := fun c => ∀ a, a < nf c → ∀ b, b < nf c → a ≠ b → (tT c a).2.1 ≠ (tT c b).2.1) nmX0 nmX1 nmX2 nmX3 nmX4 nmX5 h
abbrev Sg : Type := Nat → Nat → Int32
/-- a world's frame: from, to, base; the classes' numbers and slots; the array classes; the String constants' addresses -/
abbrev Wx : Type := (Nat × Nat × Nat) × va_G × (Nat → ClassId) × (Nat → Nat) × (Nat → Nat)
abbrev wLo (w : Wx) : Nat := w.1.1
abbrev wHi (w : Wx) : Nat := w.1.2.1
abbrev wB (w : Wx) : Nat := w.1.2.2
abbrev wD (w : Wx) : va_G := w.2.1
abbrev wT (w : Wx) : Nat → ClassId := w.2.2.1
abbrev wK (w : Wx) : Nat → Nat := w.2.2.2.1
abbrev wV (w : Wx) : Nat → Nat := w.2.2.2.2
def fv (B : Nat) (σ : Sg) (k j : Nat) : Value := if isR (kd k) j = true then .ref (B + tgt k j) else .int (σ k j)
def Cl (w : Wx) (σ : Sg) (H : Heap) (k : Nat) : Prop :=
  if kd k < 6 then t_OB (wB w + k) ((wD w).1 (kd k)) (nf (kd k)) ((wD w).2 (kd k)) H (fv (wB w) σ k)
  else if kd k = 6 then H[wB w + k]? = some (arrV (wT w 0) (ln k) (fun j => .int (σ k j)))
  else H[wB w + k]? = some (arrV (wT w (kd k - 6)) (ln k) (fun j => .ref (wB w + tgt k j)))
def Wd (w : Wx) (σ : Sg) (H : Heap) : Prop := ∀ k, wLo w ≤ k → k < wHi w → Cl w σ H k
theorem Cl.obj {w : Wx} {σ : Sg} {H : Heap} {k c : Nat} (h : Cl w σ H k) (hk : kd k = c) (hc : c < 6) : t_OB (wB w + k) ((wD w).1 c) (nf c) ((wD w).2 c) H (fv (wB w) σ k) := by
  unfold Cl at h
  rw [hk, if_pos hc] at h
  exact h
theorem Cl.ints {w : Wx} {σ : Sg} {H : Heap} {k : Nat} (h : Cl w σ H k) (hk : kd k = 6) : H[wB w + k]? = some (arrV (wT w 0) (ln k) (fun j => .int (σ k j))) := by
  unfold Cl at h
  rw [hk, if_neg (by decide), if_pos rfl] at h
  exact h
theorem Cl.refs {w : Wx} {σ : Sg} {H : Heap} {k i : Nat} (h : Cl w σ H k) (hk : kd k = 6 + i) (hi : 0 < i) : H[wB w + k]? = some (arrV (wT w i) (ln k) (fun j => .ref (wB w + tgt k j))) := by
  unfold Cl at h
  rw [hk, if_neg (by omega), if_neg (by omega)] at h
  rw [show 6 + i - 6 = i by omega] at h
  exact h
theorem Cl.kept {w : Wx} {σ σ' : Sg} {H H1 : Heap} {k : Nat} (h : Cl w σ H k) (hq : H1[wB w + k]? = H[wB w + k]?) (hs : ∀ j, σ' k j = σ k j) : Cl w σ' H1 k := by
  have e : fv (wB w) σ' k = fv (wB w) σ k := funext fun j => by unfold fv; rw [hs]
  have e2 : (fun j => Value.int (σ' k j)) = fun j => Value.int (σ k j) := funext fun j => by rw [hs]
  unfold Cl at h ⊢
  rw [e, e2, hq]
  split at h
  · next hk => rw [if_pos hk]; exact t_OB.kept h hq
  · next hk => rw [if_neg hk]; exact h
/-- one place of the ints put anew -/
def st2 (σ : Sg) (k j : Nat) (v : Int32) : Sg := fun a i => if a = k ∧ i = j then v else σ a i
theorem st2_same (σ : Sg) (k j : Nat) (v : Int32) : st2 σ k j v k j = v := if_pos ⟨rfl, rfl⟩
theorem st2_ne {σ : Sg} {k j : Nat} {v : Int32} {a i : Nat} (h : ¬ (a = k ∧ i = j)) : st2 σ k j v a i = σ a i := if_neg h
def nestF : List (String × Nat × String × String × String × String) := [("SeaMeeting", 86, "SeaMeeting$Teller", "faultPlace", "I", "SeaMeeting"), ("SeaMeeting$World", 104, "SeaMeeting", "EAST", "[I", "SeaMeeting"), ("SeaMeeting$World", 110, "SeaMeeting", "NORTH", "[I", "SeaMeeting")]
def nestM : List (String × Nat × MethodName × String) := [("SeaMeeting", 15, ⟨"SeaMeeting$World", "<init>", "()V"⟩, "SeaMeeting"), ("SeaMeeting$Outlook", 50, ⟨"SeaMeeting$Sailing", "<init>", "()V"⟩, "SeaMeeting"), ("SeaMeeting$World", 96, ⟨"SeaMeeting", "write", "([III)V"⟩, "SeaMeeting"), ("SeaMeeting$World", 117, ⟨"SeaMeeting", "read", "([II)I"⟩, "SeaMeeting"), ("SeaMeeting$Outlook", 98, ⟨"SeaMeeting", "read", "([II)I"⟩, "SeaMeeting"), ("SeaMeeting$Outlook", 143, ⟨"SeaMeeting", "write", "([III)V"⟩, "SeaMeeting"), ("SeaMeeting$Teller", 245, ⟨"SeaMeeting", "isIn", "(III)Z"⟩, "SeaMeeting"), ("SeaMeeting$Teller", 162, ⟨"SeaMeeting", "write", "([III)V"⟩, "SeaMeeting"), ("SeaMeeting$Teller", 210, ⟨"SeaMeeting", "read", "([II)I"⟩, "SeaMeeting")]
def nS : Nat := 37
def sLen : List Nat := [14, 3, 4, 7, 1, 2, 1, 2, 1, 2, 1, 2, 1, 4, 7, 6, 4, 4, 24, 14, 3, 4, 7, 1, 1, 2, 1, 2, 1, 2, 1, 2, 4, 7, 4, 4, 6]
def sByt : List (List Int32) := [[97, 110, 111, 116, 104, 101, 114, 32, 110, 117, 109, 98, 101, 114], [115, 101, 97], [108, 97, 110, 100], [99, 117, 114, 114, 101, 110, 116], [110], [110, 101], [101], [115, 101], [115], [115, 119], [119], [110, 119], [111], [119, 105, 110, 100], [100, 114, 105, 102, 116, 101, 114], [104, 101, 108, 112, 101, 114], [112, 111, 114, 116], [116, 97, 110, 107], [116, 104, 105, 115, 32, 104, 111, 117, 114, 32, 99, 97, 110, 39, 116, 32, 103, 111, 32, 98, 121, 32, 115, 111], [110, 111, 32, 115, 117, 99, 104, 32, 104, 101, 108, 112, 101, 114], [115, 101, 97], [108, 97, 110, 100], [99, 117, 114, 114, 101, 110, 116], [111], [110], [110, 101], [101], [115, 101], [115], [115, 119], [119], [110, 119], [119, 105, 110, 100], [100, 114, 105, 102, 116, 101, 114], [112, 111, 114, 116], [116, 97, 110, 107], [104, 101, 108, 112, 101, 114]]
/-- the String constants: class, entry, text, place -/
def sRef : List (String × Nat × String × Nat) := [("SeaMeeting", 234, "another number", 0), ("SeaMeeting$Teller", 95, "sea", 1), ("SeaMeeting$Teller", 113, "land", 2), ("SeaMeeting$Teller", 118, "current", 3), ("SeaMeeting$Teller", 221, "n", 4), ("SeaMeeting$Teller", 223, "ne", 5), ("SeaMeeting$Teller", 225, "e", 6), ("SeaMeeting$Teller", 227, "se", 7), ("SeaMeeting$Teller", 229, "s", 8), ("SeaMeeting$Teller", 231, "sw", 9), ("SeaMeeting$Teller", 233, "w", 10), ("SeaMeeting$Teller", 235, "nw", 11), ("SeaMeeting$Teller", 237, "o", 12), ("SeaMeeting$Teller", 123, "wind", 13), ("SeaMeeting$Teller", 128, "drifter", 14), ("SeaMeeting$Teller", 133, "helper", 15), ("SeaMeeting$Teller", 138, "port", 16), ("SeaMeeting$Teller", 143, "tank", 17), ("SeaMeeting", 239, "this hour can't go by so", 18), ("SeaMeeting", 227, "no such helper", 19), ("SeaMeetingModel", 220, "sea", 20), ("SeaMeetingModel", 181, "land", 21), ("SeaMeetingModel", 186, "current", 22), ("SeaMeetingModel", 137, "o", 23), ("SeaMeetingModel", 139, "n", 24), ("SeaMeetingModel", 141, "ne", 25), ("SeaMeetingModel", 143, "e", 26), ("SeaMeetingModel", 145, "se", 27), ("SeaMeetingModel", 147, "s", 28), ("SeaMeetingModel", 149, "sw", 29), ("SeaMeetingModel", 151, "w", 30), ("SeaMeetingModel", 153, "nw", 31), ("SeaMeetingModel", 191, "wind", 32), ("SeaMeetingModel", 201, "drifter", 33), ("SeaMeetingModel", 203, "port", 34), ("SeaMeetingModel", 205, "tank", 35), ("SeaMeetingModel", 207, "helper", 36)]
def decL : List MethodName := [⟨"java/lang/RuntimeException", "<init>", "(Ljava/lang/String;)V"⟩, ⟨"java/lang/Exception", "<init>", "(Ljava/lang/String;)V"⟩, ⟨"java/lang/Throwable", "<init>", "(Ljava/lang/String;)V"⟩]
def casL : List (String × String) := [("java/lang/IllegalArgumentException", "java/lang/IllegalArgumentException"), ("java/lang/IllegalStateException", "java/lang/IllegalStateException"), ("java/util/NoSuchElementException", "java/util/NoSuchElementException")]
def ncL : List (String × String) := [("java/lang/IllegalArgumentException", "java/lang/IllegalStateException"), ("java/lang/IllegalArgumentException", "java/util/NoSuchElementException"), ("java/lang/IllegalStateException", "java/lang/IllegalArgumentException"), ("java/lang/IllegalStateException", "java/util/NoSuchElementException"), ("java/util/NoSuchElementException", "java/lang/IllegalArgumentException"), ("java/util/NoSuchElementException", "java/lang/IllegalStateException")]
def eastL : List Int32 := [0, 0, 1, 1, 1, 0, -1, -1, -1]
def northL : List Int32 := [0, 1, 1, 0, -1, -1, -1, 0, 1]
def eastT (j : Nat) : Int32 := eastL.getD j 0
def northT (j : Nat) : Int32 := northL.getD j 0
def Lo (w : Wx) : Nat → Prop := fun q => wB w ≤ q
def Ar (w : Wx) (sz : Nat) : Nat → Prop := fun q => (wB w + wLo w ≤ q ∧ q < wB w + wHi w) ∨ sz ≤ q
/-- String constants, not told apart (equal texts are one object) -/
def vs_S (N : Nat) (len : List Nat) (byt : List (List Int32)) (adK adV : Nat → Nat) (A : Nat → Prop) (U : State) (H : Heap) : Prop :=
  ∀ i : Nat, i < N → va_O "java/lang/String" (adK i) A U H ∧ va_OF "java/lang/String" "coder" "B" (.int 0) (adK i) A U H ∧ va_OF "java/lang/String" "value" "[B" (.ref (adV i)) (adK i) A U H ∧ va_T .byte (adV i) (len.getD i 0) (fun j => .int ((byt.getD i []).getD j 0)) A U H
theorem vs_S.moved {N : Nat} {len : List Nat} {byt : List (List Int32)} {adK adV : Nat → Nat} {A : Nat → Prop} {u U : State} {H : Heap} (hvm : u.vm.Alike U.vm) (h : vs_S N len byt adK adV A u H) : vs_S N len byt adK adV A U H :=
  fun i hi => ⟨va_O.moved hvm (h i hi).1, va_OF.moved hvm (h i hi).2.1, va_OF.moved hvm (h i hi).2.2.1, va_T.moved hvm (h i hi).2.2.2⟩
theorem vs_S.kept {N : Nat} {len : List Nat} {byt : List (List Int32)} {adK adV : Nat → Nat} {A : Nat → Prop} {U : State} {H H1 : Heap} (h : vs_S N len byt adK adV A U H) (hq : ∀ a : Nat, a < H.size → ¬ A a → H1[a]? = H[a]?) : vs_S N len byt adK adV A U H1 :=
  fun i hi => ⟨(h i hi).1.kept hq, (h i hi).2.1.kept hq, (h i hi).2.2.1.kept hq, (h i hi).2.2.2.kept hq⟩
theorem vs_S.narrow {N : Nat} {len : List Nat} {byt : List (List Int32)} {adK adV : Nat → Nat} {A B : Nat → Prop} {U : State} {H : Heap} (h : vs_S N len byt adK adV A U H) (hAB : ∀ q, B q → A q) : vs_S N len byt adK adV B U H :=
  fun i hi => ⟨(h i hi).1.narrow hAB, (h i hi).2.1.narrow hAB, (h i hi).2.2.1.narrow hAB, (h i hi).2.2.2.narrow hAB⟩
theorem vs_recv {s : State} {H : Heap} {locs : List Loc} {A : Nat → Prop} {N : Nat} {len : List Nat} {byt : List (List Int32)} {adK adV : Nat → Nat} {i : Nat} (hE : vs_S N len byt adK adV A s s.heap) (hi : i < N) (hS : va_S A s.heap H locs) : ∃ cell : Cell, H[adK i]? = some cell ∧ cell.vm.isStatics = false ∧ s.vm.findClass "java/lang/String" = some cell.cls := by
  obtain ⟨cell, h1, h2, h3, -⟩ := (hE i hi).1.kept hS.2.1
  exact ⟨cell, h1, h2, h3⟩
/-- what a method needs of all else: the classes, the array classes, the nest's links, the tables, the String constants, the exceptions' statics -/
def Ev (w : Wx) (U : State) (H : Heap) : Prop :=
  wB w ≤ H.size ∧ va_K (wD w) vwCl [] U ∧ (∀ i, i < 4 → ArrOfT U (wT w i) (tyA i)) ∧
  (∀ q ∈ nestF, va_Nw (.fieldLinkNest q.1 q.2.1 q.2.2.1 q.2.2.2.1 q.2.2.2.2.1 q.2.2.2.2.2) U) ∧ (∀ q ∈ nestM, va_Nw (.methodLinkNest q.1 q.2.1 q.2.2.1 q.2.2.2) U) ∧
  (∃ t, va_Z "SeaMeeting" "EAST" "[I" (.ref t) (Lo w) U H ∧ va_T .int t 9 (fun j => .int (eastT j)) (Lo w) U H) ∧
  (∃ t, va_Z "SeaMeeting" "NORTH" "[I" (.ref t) (Lo w) U H ∧ va_T .int t 9 (fun j => .int (northT j)) (Lo w) U H) ∧
  vs_S nS sLen sByt (wK w) (wV w) (Lo w) U H ∧ (∀ q ∈ sRef, vk_R q.1 q.2.1 q.2.2.1 (wK w q.2.2.2) U) ∧
  va_Z "java/lang/String" "COMPACT_STRINGS" "Z" (.int 1) (Lo w) U H ∧ va_Zq "jdk/internal/util/Preconditions" "SIOOBE_FORMATTER" "Ljava/util/function/BiFunction;" (Lo w) U H ∧
  vx_Zq Bundle.tN "UNASSIGNED_STACK" Bundle.steD (Lo w) U H ∧ vx_Zq Bundle.tN "SUPPRESSED_SENTINEL" Bundle.listD (Lo w) U H ∧
  (∀ q ∈ decL, va_Nw (.declares q) U) ∧ (∀ q ∈ casL, va_Nw (.castable q.1 q.2) U) ∧ (∀ q ∈ ncL, va_Nc q.1 q.2 U)
theorem Ev.warm {w : Wx} {s U : State} {H : Heap} (hW : s.WarmedH U.vm) (h : Ev w s H) : Ev w U H := by
  obtain ⟨h1, h2, h3, h4, h5, ⟨t, h6, h7⟩, ⟨t2, h8, h9⟩, h10, h11, h12, h13, h14, h15, h16, h17, h18⟩ := h
  have a := hW.alike
  exact ⟨h1, va_K.moved a h2, fun i hi => arrOfT_moved a (h3 i hi), fun q hq => (h4 q hq).warmF hW, fun q hq => (h5 q hq).warmM hW,
    ⟨t, va_Z.moved a h6, va_T.moved a h7⟩, ⟨t2, va_Z.moved a h8, va_T.moved a h9⟩, vs_S.moved a h10, fun q hq => (h11 q hq).warm hW,
    va_Z.moved a h12, va_Zq.moved a h13, vx_Zq.moved a h14, vx_Zq.moved a h15, fun q hq => (h16 q hq).warmD hW, fun q hq => (h17 q hq).warmC hW, fun q hq => (h18 q hq).moved a⟩
theorem Ev.vm {w : Wx} {s U : State} {H : Heap} (hv : U.vm = s.vm) (h : Ev w s H) : Ev w U H := h.warm (by rw [hv]; exact State.WarmedH.refl s)
theorem Ev.kept {w : Wx} {U : State} {H H1 : Heap} (h : Ev w U H) (hz : H.size ≤ H1.size) (hq : ∀ a : Nat, a < H.size → ¬ Lo w a → H1[a]? = H[a]?) : Ev w U H1 := by
  obtain ⟨h1, h2, h3, h4, h5, ⟨t, h6, h7⟩, ⟨t2, h8, h9⟩, h10, h11, h12, h13, h14, h15, h16, h17, h18⟩ := h
  exact ⟨Nat.le_trans h1 hz, h2, h3, h4, h5, ⟨t, h6.kept hq, h7.kept hq⟩, ⟨t2, h8.kept hq, h9.kept hq⟩, h10.kept hq, h11, h12.kept hq, h13.kept hq, h14.kept hq, h15.kept hq, h16, h17, h18⟩
theorem Ar.lo {w : Wx} {sz q : Nat} (hB : wB w ≤ sz) (h : Ar w sz q) : Lo w q := by
  unfold Lo
  rcases h with h | h
  · have := h.1; omega
  · omega
theorem Ev.at {w : Wx} {s U : State} {H : Heap} {locs : List Loc} (h : Ev w s s.heap) (hS : va_S (Ar w s.heap.size) s.heap H locs) (hW : s.WarmedH U.vm) : Ev w U H :=
  (h.kept hS.1 (fun a h1 h2 => hS.2.1 a h1 (fun z => h2 (Ar.lo h.1 z)))).warm hW
/-! contracts -/
def PreC (w : Wx) (As : List Value) (σ : Sg) (sz : Nat) : Array Value → State → Prop := fun a U => a = As.toArray ∧ U.heap.size = sz ∧ Ev w U U.heap ∧ Wd w σ U.heap
def PostC (w : Wx) (P : Outcome → Sg → Prop) : Array Value → State → Outcome → State → Prop := fun _ st o t => (∃ σ', P o σ' ∧ Wd w σ' t.heap) ∧ va_F (Ar w st.heap.size) st t
def Ct (l : Launch) (w : Wx) (y : MethodName) (cc : ByteArray) (nL : Nat) (ret : Option FieldType) (rm : Room) (As : List Value) (σ : Sg) (P : Outcome → Sg → Prop) : Prop :=
  ∀ sz, Met l y (.code y cc nL ret :: TBL) rm (PreC w As σ sz) (PostC w P) rm.cells rm.slots (Ar w sz)
theorem PreC.blind {w : Wx} {As : List Value} {σ : Sg} {sz : Nat} : FrameBlind (PreC w As σ sz) := by
  intro a U g mk h
  exact ⟨h.1, h.2.1, Ev.vm (s := U) rfl h.2.2.1, h.2.2.2⟩
/-- what a method's frame is about -/
abbrev Cx : Type := Program × Launch × Env × Room × State × MethodId × Array Value × List Frame × Method × Code
abbrev xP (x : Cx) := x.1
abbrev xL (x : Cx) := x.2.1
abbrev xE (x : Cx) := x.2.2.1
abbrev xR (x : Cx) := x.2.2.2.1
abbrev xS (x : Cx) := x.2.2.2.2.1
abbrev xM (x : Cx) := x.2.2.2.2.2.1
abbrev xA (x : Cx) := x.2.2.2.2.2.2.1
abbrev xW (x : Cx) := x.2.2.2.2.2.2.2.1
abbrev xY (x : Cx) := x.2.2.2.2.2.2.2.2.1
abbrev xC (x : Cx) := x.2.2.2.2.2.2.2.2.2
def Ok (x : Cx) (w : Wx) (cc : ByteArray) (nL : Nat) (own : String) (ret : Option FieldType) (rm : Room) : Prop :=
  (xP x).tables.exec = Jvm.exec ∧ (xC x).code = cc ∧ (xC x).maxLocals = nL ∧ (xS x).vm.findClass own = some (xM x).cls ∧ (∀ q ∈ TBL, q.before (xA x) (xS x) = true) ∧
  (xY x).locks = false ∧ (xY x).sig.returnType = ret ∧ xR x = rm ∧ Ev w (xS x) (xS x).heap
/-- the judgement: from pc, with these locals, this stack and these ints, the machine comes to Q -/
def J (x : Cx) (w : Wx) (Q : State → Prop) (pc : Nat) (lv : List (Nat × Value)) (st : List Value) (cs : Nat × Nat) (σ : Sg) : Prop :=
  ∀ (H : Heap) (locs : List Loc) (ls : Array Slot), va_S (Ar w (xS x).heap.size) (xS x).heap H locs → Wd w σ H → lv_has ls (xC x).maxLocals lv →
    W (xP x) (xL x) (xE x) (xR x) (xS x) (xM x) (xA x) (xW x) (xY x) (xC x) H locs cs.1 cs.2 Q (F0 (xM x) pc ls st)
/-- the end of a method that only returns -/
def FinC (x : Cx) (w : Wx) (P : Outcome → Sg → Prop) (cs : Nat × Nat) : State → Prop := MQ (xW x) (PostC w P) (xA x) (xS x) cs.1 cs.2 (Ar w (xS x).heap.size)
theorem Ct.of {l : Launch} {w : Wx} {y : MethodName} {cc : ByteArray} {nL : Nat} {own : String} {ret : Option FieldType} {rm : Room} {As : List Value} {σ : Sg} {P : Outcome → Sg → Prop} (hy : plainName y.cls = true) (ho : y.cls = own) (hlen : (lg_sl As).length ≤ nL)
    (body : ∀ x : Cx, xL x = l → Ok x w cc nL own ret rm → J x w (FinC x w P (rm.cells, rm.slots)) 0 (lv_args 0 As) [] (0, 0) σ) : Ct l w y cc nL ret rm As σ P := by
  intro sz
  refine Met.ofW (cc := cc) (maxL := nL) (ret := ret) hy rfl ?_
  intro p e s m args below meth c s₁ B hml hv
  obtain ⟨rfl, hsz, hE, hW⟩ := hv
  have hts := atoms_spec (ws := .code y cc nL ret :: TBL) B.pre
  have hown : s.vm.findClass y.cls = some m.cls := findClass_of_methodNamed B.named
  subst hsz
  have K := body (p, l, e, rm, s, m, As.toArray, below, meth, c) rfl ⟨B.exec, B.bytes, hml, by rw [← ho]; exact hown, fun q hq => hts q (List.mem_cons_of_mem _ hq), B.notSynchronized, B.returns, rfl, hE⟩
  rw [lg_entry_eq]
  exact K s.heap [] _ va_S.rf hW (by rw [show (xC (p, l, e, rm, s, m, As.toArray, below, meth, c)).maxLocals = nL from hml]; exact lv_entry As hlen)
end
section
section
variable {x : Cx} {w : Wx} {Q : State → Prop} {cc : ByteArray} {nL : Nat} {own : String} {ret : Option FieldType} {rm : Room} {pc : Nat} {lv : List (Nat × Value)} {st : List Value} {cs : Nat × Nat} {σ : Sg}
/-! ints, locals, stack -/
theorem J_iconst (o : Ok x w cc nL own ret rm) {n : Int} {v : Int32} (d : decode cc pc = .ok (.iconst n, 1)) (hv : Int32.ofInt n = v) (kk : J x w Q (pc + 1) lv (.int v :: st) cs σ) : J x w Q pc lv (st) cs σ :=
  fun H locs ls hS hW hl => lv_iconst o.1 o.2.1 d hv (kk H locs ls hS hW hl)
theorem J_bipush (o : Ok x w cc nL own ret rm) {n : Int} {v : Int32} (d : decode cc pc = .ok (.bipush n, 2)) (hv : (Int8.ofInt n).toInt32 = v) (kk : J x w Q (pc + 2) lv (.int v :: st) cs σ) : J x w Q pc lv (st) cs σ :=
  fun H locs ls hS hW hl => lv_bipush o.1 o.2.1 d hv (kk H locs ls hS hW hl)
theorem J_sipush (o : Ok x w cc nL own ret rm) {n : Int} {v : Int32} (d : decode cc pc = .ok (.sipush n, 3)) (hv : (Int16.ofInt n).toInt32 = v) (kk : J x w Q (pc + 3) lv (.int v :: st) cs σ) : J x w Q pc lv (st) cs σ :=
  fun H locs ls hS hW hl => lv_sipush o.1 o.2.1 d hv (kk H locs ls hS hW hl)
theorem J_iload (o : Ok x w cc nL own ret rm) (k : Nat) {i : Nat} {v : Int32} (d : decode cc pc = .ok (.iload i, 2)) (hl0 : lv[k]? = some (i, .int v)) (kk : J x w Q (pc + 2) lv (.int v :: st) cs σ) : J x w Q pc lv (st) cs σ :=
  fun H locs ls hS hW hl => lv_iload o.1 o.2.1 d (lv_at hl k hl0) (kk H locs ls hS hW hl)
theorem J_iload_n (o : Ok x w cc nL own ret rm) (k : Nat) {i : Fin 4} {v : Int32} (d : decode cc pc = .ok (.iload_n i, 1)) (hl0 : lv[k]? = some ((i : Nat), .int v)) (kk : J x w Q (pc + 1) lv (.int v :: st) cs σ) : J x w Q pc lv (st) cs σ :=
  fun H locs ls hS hW hl => lv_iload_n o.1 o.2.1 d rfl (lv_at hl k hl0) (kk H locs ls hS hW hl)
theorem J_aload (o : Ok x w cc nL own ret rm) (k : Nat) {i : Nat} {v : Nat} (d : decode cc pc = .ok (.aload i, 2)) (hl0 : lv[k]? = some (i, .ref v)) (kk : J x w Q (pc + 2) lv (.ref v :: st) cs σ) : J x w Q pc lv (st) cs σ :=
  fun H locs ls hS hW hl => lv_aload o.1 o.2.1 d (lv_at hl k hl0) (kk H locs ls hS hW hl)
theorem J_aload_n (o : Ok x w cc nL own ret rm) (k : Nat) {i : Fin 4} {v : Nat} (d : decode cc pc = .ok (.aload_n i, 1)) (hl0 : lv[k]? = some ((i : Nat), .ref v)) (kk : J x w Q (pc + 1) lv (.ref v :: st) cs σ) : J x w Q pc lv (st) cs σ :=
  fun H locs ls hS hW hl => lv_aload_n o.1 o.2.1 d rfl (lv_at hl k hl0) (kk H locs ls hS hW hl)
theorem J_lload (o : Ok x w cc nL own ret rm) (k : Nat) {i : Nat} {v : Int64} (d : decode cc pc = .ok (.lload i, 2)) (hl0 : lv[k]? = some (i, .long v)) (kk : J x w Q (pc + 2) lv (.long v :: st) cs σ) : J x w Q pc lv (st) cs σ :=
  fun H locs ls hS hW hl => lv_lload o.1 o.2.1 d (lv_at hl k hl0) (kk H locs ls hS hW hl)
theorem J_lload_n (o : Ok x w cc nL own ret rm) (k : Nat) {i : Fin 4} {v : Int64} (d : decode cc pc = .ok (.lload_n i, 1)) (hl0 : lv[k]? = some ((i : Nat), .long v)) (kk : J x w Q (pc + 1) lv (.long v :: st) cs σ) : J x w Q pc lv (st) cs σ :=
  fun H locs ls hS hW hl => lv_lload_n o.1 o.2.1 d rfl (lv_at hl k hl0) (kk H locs ls hS hW hl)
theorem J_istore (o : Ok x w cc nL own ret rm) {i : Nat} {v : Int32} {lv' : List (Nat × Value)} (d : decode cc pc = .ok (.istore i, 2)) (hn : i < nL) (hl0 : ((i : Nat), Value.int v) :: lv.filter (fun q => !(q.1 == (i : Nat)) && !(q.1 + 1 == (i : Nat) && q.2.category == 2)) = lv') (kk : J x w Q (pc + 2) lv' st cs σ) : J x w Q pc lv (Value.int v :: st) cs σ :=
  fun H locs ls hS hW hl => lv_istore o.1 o.2.1 d hl (by rw [o.2.2.1]; exact hn) hl0 (fun ls' h => kk H locs ls' hS hW h)
theorem J_istore_n (o : Ok x w cc nL own ret rm) {i : Fin 4} {v : Int32} {lv' : List (Nat × Value)} (d : decode cc pc = .ok (.istore_n i, 1)) (hn : (i : Nat) < nL) (hl0 : ((i : Nat), Value.int v) :: lv.filter (fun q => !(q.1 == (i : Nat)) && !(q.1 + 1 == (i : Nat) && q.2.category == 2)) = lv') (kk : J x w Q (pc + 1) lv' st cs σ) : J x w Q pc lv (Value.int v :: st) cs σ :=
  fun H locs ls hS hW hl => lv_istore_n o.1 o.2.1 d rfl hl (by rw [o.2.2.1]; exact hn) hl0 (fun ls' h => kk H locs ls' hS hW h)
theorem J_astore (o : Ok x w cc nL own ret rm) {i : Nat} {v : Nat} {lv' : List (Nat × Value)} (d : decode cc pc = .ok (.astore i, 2)) (hn : i < nL) (hl0 : ((i : Nat), Value.ref v) :: lv.filter (fun q => !(q.1 == (i : Nat)) && !(q.1 + 1 == (i : Nat) && q.2.category == 2)) = lv') (kk : J x w Q (pc + 2) lv' st cs σ) : J x w Q pc lv (Value.ref v :: st) cs σ :=
  fun H locs ls hS hW hl => lv_astore o.1 o.2.1 d hl (by rw [o.2.2.1]; exact hn) hl0 (fun ls' h => kk H locs ls' hS hW h)
theorem J_astore_n (o : Ok x w cc nL own ret rm) {i : Fin 4} {v : Nat} {lv' : List (Nat × Value)} (d : decode cc pc = .ok (.astore_n i, 1)) (hn : (i : Nat) < nL) (hl0 : ((i : Nat), Value.ref v) :: lv.filter (fun q => !(q.1 == (i : Nat)) && !(q.1 + 1 == (i : Nat) && q.2.category == 2)) = lv') (kk : J x w Q (pc + 1) lv' st cs σ) : J x w Q pc lv (Value.ref v :: st) cs σ :=
  fun H locs ls hS hW hl => lv_astore_n o.1 o.2.1 d rfl hl (by rw [o.2.2.1]; exact hn) hl0 (fun ls' h => kk H locs ls' hS hW h)
theorem J_lstore (o : Ok x w cc nL own ret rm) {i : Nat} {v : Int64} {lv' : List (Nat × Value)} (d : decode cc pc = .ok (.lstore i, 2)) (hn : i + 1 < nL) (hl0 : ((i : Nat), Value.long v) :: lv.filter (fun q => !(q.1 == (i : Nat)) && (!(q.1 == (i : Nat) + 1) && !(q.1 + 1 == (i : Nat) && q.2.category == 2))) = lv') (kk : J x w Q (pc + 2) lv' st cs σ) : J x w Q pc lv (Value.long v :: st) cs σ :=
  fun H locs ls hS hW hl => lv_lstore o.1 o.2.1 d hl (by rw [o.2.2.1]; exact hn) hl0 (fun ls' h => kk H locs ls' hS hW h)
theorem J_lstore_n (o : Ok x w cc nL own ret rm) {i : Fin 4} {v : Int64} {lv' : List (Nat × Value)} (d : decode cc pc = .ok (.lstore_n i, 1)) (hn : (i : Nat) + 1 < nL) (hl0 : ((i : Nat), Value.long v) :: lv.filter (fun q => !(q.1 == (i : Nat)) && (!(q.1 == (i : Nat) + 1) && !(q.1 + 1 == (i : Nat) && q.2.category == 2))) = lv') (kk : J x w Q (pc + 1) lv' st cs σ) : J x w Q pc lv (Value.long v :: st) cs σ :=
  fun H locs ls hS hW hl => lv_lstore_n o.1 o.2.1 d rfl hl (by rw [o.2.2.1]; exact hn) hl0 (fun ls' h => kk H locs ls' hS hW h)
theorem J_iinc (o : Ok x w cc nL own ret rm) {i : Nat} {n : Int} {v v2 : Int32} {lv' : List (Nat × Value)} (k : Nat) (d : decode cc pc = .ok (.iinc i n, 3)) (hn : i < nL) (hk : lv[k]? = some (i, .int v)) (hv : Int32.ofInt n = v2) (hl0 : (i, Value.int (v + v2)) :: lv.filter (fun q => !(q.1 == i) && !(q.1 + 1 == i && q.2.category == 2)) = lv') (kk : J x w Q (pc + 3) lv' st cs σ) : J x w Q pc lv st cs σ :=
  fun H locs ls hS hW hl => lv_iinc o.1 o.2.1 d hl hk (by rw [hv]) (by rw [o.2.2.1]; exact hn) hl0 (fun ls' h => kk H locs ls' hS hW h)
theorem J_iadd (o : Ok x w cc nL own ret rm) {a b : Int32} (d : decode cc pc = .ok (.iadd, 1)) (kk : J x w Q (pc + 1) lv (.int (a + b) :: st) cs σ) : J x w Q pc lv (.int b :: .int a :: st) cs σ :=
  fun H locs ls hS hW hl => lv_iadd o.1 o.2.1 d (kk H locs ls hS hW hl)
theorem J_isub (o : Ok x w cc nL own ret rm) {a b : Int32} (d : decode cc pc = .ok (.isub, 1)) (kk : J x w Q (pc + 1) lv (.int (a - b) :: st) cs σ) : J x w Q pc lv (.int b :: .int a :: st) cs σ :=
  fun H locs ls hS hW hl => lv_isub o.1 o.2.1 d (kk H locs ls hS hW hl)
theorem J_imul (o : Ok x w cc nL own ret rm) {a b : Int32} (d : decode cc pc = .ok (.imul, 1)) (kk : J x w Q (pc + 1) lv (.int (a * b) :: st) cs σ) : J x w Q pc lv (.int b :: .int a :: st) cs σ :=
  fun H locs ls hS hW hl => lv_imul o.1 o.2.1 d (kk H locs ls hS hW hl)
theorem J_iand (o : Ok x w cc nL own ret rm) {a b : Int32} (d : decode cc pc = .ok (.iand, 1)) (kk : J x w Q (pc + 1) lv (.int (a &&& b) :: st) cs σ) : J x w Q pc lv (.int b :: .int a :: st) cs σ :=
  fun H locs ls hS hW hl => lv_iand o.1 o.2.1 d (kk H locs ls hS hW hl)
theorem J_ior (o : Ok x w cc nL own ret rm) {a b : Int32} (d : decode cc pc = .ok (.ior, 1)) (kk : J x w Q (pc + 1) lv (.int (a ||| b) :: st) cs σ) : J x w Q pc lv (.int b :: .int a :: st) cs σ :=
  fun H locs ls hS hW hl => lv_ior o.1 o.2.1 d (kk H locs ls hS hW hl)
theorem J_idiv (o : Ok x w cc nL own ret rm) {a b : Int32} (d : decode cc pc = .ok (.idiv, 1)) (hb : ¬ b = 0) (kk : J x w Q (pc + 1) lv (.int (a / b) :: st) cs σ) : J x w Q pc lv (.int b :: .int a :: st) cs σ :=
  fun H locs ls hS hW hl => lv_idiv o.1 o.2.1 d hb (kk H locs ls hS hW hl)
theorem J_irem (o : Ok x w cc nL own ret rm) {a b : Int32} (d : decode cc pc = .ok (.irem, 1)) (hb : ¬ b = 0) (kk : J x w Q (pc + 1) lv (.int (a - a / b * b) :: st) cs σ) : J x w Q pc lv (.int b :: .int a :: st) cs σ :=
  fun H locs ls hS hW hl => lv_irem o.1 o.2.1 d hb (kk H locs ls hS hW hl)
theorem J_ishl (o : Ok x w cc nL own ret rm) {a b : Int32} (d : decode cc pc = .ok (.ishl, 1)) (kk : J x w Q (pc + 1) lv (.int (a <<< (b &&& 31)) :: st) cs σ) : J x w Q pc lv (.int b :: .int a :: st) cs σ :=
  fun H locs ls hS hW hl => lv_ishl o.1 o.2.1 d (kk H locs ls hS hW hl)
theorem J_ishr (o : Ok x w cc nL own ret rm) {a b : Int32} (d : decode cc pc = .ok (.ishr, 1)) (kk : J x w Q (pc + 1) lv (.int (a >>> (b &&& 31)) :: st) cs σ) : J x w Q pc lv (.int b :: .int a :: st) cs σ :=
  fun H locs ls hS hW hl => lv_ishr o.1 o.2.1 d (kk H locs ls hS hW hl)
theorem J_iushr (o : Ok x w cc nL own ret rm) {a b : Int32} (d : decode cc pc = .ok (.iushr, 1)) (kk : J x w Q (pc + 1) lv (.int ((a.toUInt32 >>> (b.toUInt32 &&& Int32.toUInt32 31)).toInt32) :: st) cs σ) : J x w Q pc lv (.int b :: .int a :: st) cs σ :=
  fun H locs ls hS hW hl => lv_iushr o.1 o.2.1 d rfl (kk H locs ls hS hW hl)
theorem J_ladd (o : Ok x w cc nL own ret rm) {a b : Int64} (d : decode cc pc = .ok (.ladd, 1)) (kk : J x w Q (pc + 1) lv (.long (a + b) :: st) cs σ) : J x w Q pc lv (.long b :: .long a :: st) cs σ :=
  fun H locs ls hS hW hl => lv_ladd o.1 o.2.1 d (kk H locs ls hS hW hl)
theorem J_lmul (o : Ok x w cc nL own ret rm) {a b : Int64} (d : decode cc pc = .ok (.lmul, 1)) (kk : J x w Q (pc + 1) lv (.long (a * b) :: st) cs σ) : J x w Q pc lv (.long b :: .long a :: st) cs σ :=
  fun H locs ls hS hW hl => lv_lmul o.1 o.2.1 d (kk H locs ls hS hW hl)
theorem J_lcmp (o : Ok x w cc nL own ret rm) {a b : Int64} (d : decode cc pc = .ok (.lcmp, 1)) (kk : J x w Q (pc + 1) lv (.int (lg_cmp a b) :: st) cs σ) : J x w Q pc lv (.long b :: .long a :: st) cs σ :=
  fun H locs ls hS hW hl => W.lcmp o.1 o.2.1 d (kk H locs ls hS hW hl)
theorem J_i2l (o : Ok x w cc nL own ret rm) {a : Int32} (d : decode cc pc = .ok (.i2l, 1)) (kk : J x w Q (pc + 1) lv (.long a.toInt64 :: st) cs σ) : J x w Q pc lv (.int a :: st) cs σ :=
  fun H locs ls hS hW hl => lv_i2l o.1 o.2.1 d rfl (kk H locs ls hS hW hl)
theorem J_dup (o : Ok x w cc nL own ret rm) {v : Value} (d : decode cc pc = .ok (.dup, 1)) (hc : v.category = 1) (kk : J x w Q (pc + 1) lv (v :: v :: st) cs σ) : J x w Q pc lv (v :: st) cs σ :=
  fun H locs ls hS hW hl => lv_dup o.1 o.2.1 d hc (kk H locs ls hS hW hl)
theorem J_pop (o : Ok x w cc nL own ret rm) {v : Value} (d : decode cc pc = .ok (.pop, 1)) (hc : v.category = 1) (kk : J x w Q (pc + 1) lv (st) cs σ) : J x w Q pc lv (v :: st) cs σ :=
  fun H locs ls hS hW hl => lv_pop o.1 o.2.1 d hc (kk H locs ls hS hW hl)
theorem J_dup2 (o : Ok x w cc nL own ret rm) {u v : Value} (d : decode cc pc = .ok (.dup2, 1)) (hu : u.category = 1) (hc : v.category = 1) (kk : J x w Q (pc + 1) lv (u :: v :: u :: v :: st) cs σ) : J x w Q pc lv (u :: v :: st) cs σ :=
  fun H locs ls hS hW hl => lv_dup2_11 o.1 o.2.1 d hu hc (kk H locs ls hS hW hl)
theorem J_ldc2 (o : Ok x w cc nL own ret rm) {i : Nat} {v : Int64} (d : decode cc pc = .ok (.ldc2_w i, 3)) (hc : Cond.constantLong own i v ∈ TBL) (kk : J x w Q (pc + 3) lv (.long v :: st) cs σ) : J x w Q pc lv (st) cs σ :=
  fun H locs ls hS hW hl => lv_ldc2 o.1 o.2.1 o.2.2.2.1 (o.2.2.2.2.1 _ hc) d (kk H locs ls hS hW hl)
theorem J_ldc (o : Ok x w cc nL own ret rm) {i : Nat} {v : Int32} (d : decode cc pc = .ok (.ldc i, 2)) (hc : Cond.constant own i v ∈ TBL) (kk : J x w Q (pc + 2) lv (.int v :: st) cs σ) : J x w Q pc lv (st) cs σ :=
  fun H locs ls hS hW hl => lv_ldc o.1 o.2.1 o.2.2.2.1 (o.2.2.2.2.1 _ hc) d (kk H locs ls hS hW hl)
theorem J_ldcw (o : Ok x w cc nL own ret rm) {i : Nat} {v : Int32} (d : decode cc pc = .ok (.ldc_w i, 3)) (hc : Cond.constant own i v ∈ TBL) (kk : J x w Q (pc + 3) lv (.int v :: st) cs σ) : J x w Q pc lv (st) cs σ :=
  fun H locs ls hS hW hl => lv_ldcw o.1 o.2.1 o.2.2.2.1 (o.2.2.2.2.1 _ hc) d (kk H locs ls hS hW hl)
theorem J_if_eq (o : Ok x w cc nL own ret rm) {a : Int32} {off : Int} (tgt : Nat) (d : decode cc pc = .ok (.ifCond .eq off, 3)) (ht : (pc : Int) + off = (tgt : Int)) (kt : a = 0 → J x w Q tgt lv st cs σ) (kf : ¬ (a = 0) → J x w Q (pc + 3) lv st cs σ) : J x w Q pc lv (.int a :: st) cs σ :=
  fun H locs ls hS hW hl => lv_if_eq o.1 o.2.1 d ht (fun c => kt c H locs ls hS hW hl) (fun c => kf c H locs ls hS hW hl)
theorem J_if_ne (o : Ok x w cc nL own ret rm) {a : Int32} {off : Int} (tgt : Nat) (d : decode cc pc = .ok (.ifCond .ne off, 3)) (ht : (pc : Int) + off = (tgt : Int)) (kt : ¬ a = 0 → J x w Q tgt lv st cs σ) (kf : a = 0 → J x w Q (pc + 3) lv st cs σ) : J x w Q pc lv (.int a :: st) cs σ :=
  fun H locs ls hS hW hl => lv_if_ne o.1 o.2.1 d ht (fun c => kt c H locs ls hS hW hl) (fun c => kf c H locs ls hS hW hl)
theorem J_if_lt (o : Ok x w cc nL own ret rm) {a : Int32} {off : Int} (tgt : Nat) (d : decode cc pc = .ok (.ifCond .lt off, 3)) (ht : (pc : Int) + off = (tgt : Int)) (kt : a < 0 → J x w Q tgt lv st cs σ) (kf : ¬ (a < 0) → J x w Q (pc + 3) lv st cs σ) : J x w Q pc lv (.int a :: st) cs σ :=
  fun H locs ls hS hW hl => lv_if_lt o.1 o.2.1 d ht (fun c => kt c H locs ls hS hW hl) (fun c => kf c H locs ls hS hW hl)
theorem J_if_ge (o : Ok x w cc nL own ret rm) {a : Int32} {off : Int} (tgt : Nat) (d : decode cc pc = .ok (.ifCond .ge off, 3)) (ht : (pc : Int) + off = (tgt : Int)) (kt : 0 ≤ a → J x w Q tgt lv st cs σ) (kf : ¬ (0 ≤ a) → J x w Q (pc + 3) lv st cs σ) : J x w Q pc lv (.int a :: st) cs σ :=
  fun H locs ls hS hW hl => lv_if_ge o.1 o.2.1 d ht (fun c => kt c H locs ls hS hW hl) (fun c => kf c H locs ls hS hW hl)
theorem J_if_gt (o : Ok x w cc nL own ret rm) {a : Int32} {off : Int} (tgt : Nat) (d : decode cc pc = .ok (.ifCond .gt off, 3)) (ht : (pc : Int) + off = (tgt : Int)) (kt : 0 < a → J x w Q tgt lv st cs σ) (kf : ¬ (0 < a) → J x w Q (pc + 3) lv st cs σ) : J x w Q pc lv (.int a :: st) cs σ :=
  fun H locs ls hS hW hl => lv_if_gt o.1 o.2.1 d ht (fun c => kt c H locs ls hS hW hl) (fun c => kf c H locs ls hS hW hl)
theorem J_if_le (o : Ok x w cc nL own ret rm) {a : Int32} {off : Int} (tgt : Nat) (d : decode cc pc = .ok (.ifCond .le off, 3)) (ht : (pc : Int) + off = (tgt : Int)) (kt : a ≤ 0 → J x w Q tgt lv st cs σ) (kf : ¬ (a ≤ 0) → J x w Q (pc + 3) lv st cs σ) : J x w Q pc lv (.int a :: st) cs σ :=
  fun H locs ls hS hW hl => lv_if_le o.1 o.2.1 d ht (fun c => kt c H locs ls hS hW hl) (fun c => kf c H locs ls hS hW hl)
theorem J_icmp_eq (o : Ok x w cc nL own ret rm) {a b : Int32} {off : Int} (tgt : Nat) (d : decode cc pc = .ok (.if_icmp .eq off, 3)) (ht : (pc : Int) + off = (tgt : Int)) (kt : a = b → J x w Q tgt lv st cs σ) (kf : ¬ (a = b) → J x w Q (pc + 3) lv st cs σ) : J x w Q pc lv (.int b :: .int a :: st) cs σ :=
  fun H locs ls hS hW hl => lv_icmp_eq o.1 o.2.1 d ht (fun c => kt c H locs ls hS hW hl) (fun c => kf c H locs ls hS hW hl)
theorem J_icmp_ne (o : Ok x w cc nL own ret rm) {a b : Int32} {off : Int} (tgt : Nat) (d : decode cc pc = .ok (.if_icmp .ne off, 3)) (ht : (pc : Int) + off = (tgt : Int)) (kt : ¬ a = b → J x w Q tgt lv st cs σ) (kf : a = b → J x w Q (pc + 3) lv st cs σ) : J x w Q pc lv (.int b :: .int a :: st) cs σ :=
  fun H locs ls hS hW hl => lv_icmp_ne o.1 o.2.1 d ht (fun c => kt c H locs ls hS hW hl) (fun c => kf c H locs ls hS hW hl)
theorem J_icmp_lt (o : Ok x w cc nL own ret rm) {a b : Int32} {off : Int} (tgt : Nat) (d : decode cc pc = .ok (.if_icmp .lt off, 3)) (ht : (pc : Int) + off = (tgt : Int)) (kt : a < b → J x w Q tgt lv st cs σ) (kf : ¬ (a < b) → J x w Q (pc + 3) lv st cs σ) : J x w Q pc lv (.int b :: .int a :: st) cs σ :=
  fun H locs ls hS hW hl => lv_icmp_lt o.1 o.2.1 d ht (fun c => kt c H locs ls hS hW hl) (fun c => kf c H locs ls hS hW hl)
theorem J_icmp_ge (o : Ok x w cc nL own ret rm) {a b : Int32} {off : Int} (tgt : Nat) (d : decode cc pc = .ok (.if_icmp .ge off, 3)) (ht : (pc : Int) + off = (tgt : Int)) (kt : b ≤ a → J x w Q tgt lv st cs σ) (kf : ¬ (b ≤ a) → J x w Q (pc + 3) lv st cs σ) : J x w Q pc lv (.int b :: .int a :: st) cs σ :=
  fun H locs ls hS hW hl => lv_icmp_ge o.1 o.2.1 d ht (fun c => kt c H locs ls hS hW hl) (fun c => kf c H locs ls hS hW hl)
theorem J_icmp_gt (o : Ok x w cc nL own ret rm) {a b : Int32} {off : Int} (tgt : Nat) (d : decode cc pc = .ok (.if_icmp .gt off, 3)) (ht : (pc : Int) + off = (tgt : Int)) (kt : b < a → J x w Q tgt lv st cs σ) (kf : ¬ (b < a) → J x w Q (pc + 3) lv st cs σ) : J x w Q pc lv (.int b :: .int a :: st) cs σ :=
  fun H locs ls hS hW hl => lv_icmp_gt o.1 o.2.1 d ht (fun c => kt c H locs ls hS hW hl) (fun c => kf c H locs ls hS hW hl)
theorem J_icmp_le (o : Ok x w cc nL own ret rm) {a b : Int32} {off : Int} (tgt : Nat) (d : decode cc pc = .ok (.if_icmp .le off, 3)) (ht : (pc : Int) + off = (tgt : Int)) (kt : a ≤ b → J x w Q tgt lv st cs σ) (kf : ¬ (a ≤ b) → J x w Q (pc + 3) lv st cs σ) : J x w Q pc lv (.int b :: .int a :: st) cs σ :=
  fun H locs ls hS hW hl => lv_icmp_le o.1 o.2.1 d ht (fun c => kt c H locs ls hS hW hl) (fun c => kf c H locs ls hS hW hl)
theorem J_goto (o : Ok x w cc nL own ret rm) {off : Int} (tgt : Nat) (d : decode cc pc = .ok (.goto off, 3)) (ht : (pc : Int) + off = (tgt : Int)) (kk : J x w Q tgt lv st cs σ) : J x w Q pc lv st cs σ :=
  fun H locs ls hS hW hl => lv_goto o.1 o.2.1 d ht (kk H locs ls hS hW hl)
theorem J_tableIn (o : Ok x w cc nL own ret rm) {dflt lo hi : Int} {offs : Array Int} {len : Nat} {a : Int32} {off : Int} (tgt : Nat) (d : decode cc pc = .ok (.tableswitch dflt lo hi offs, len)) (h1 : ¬ a.toInt < lo) (h2 : ¬ hi < a.toInt) (ho : offs[(a.toInt - lo).toNat]? = some off) (ht : (pc : Int) + off = (tgt : Int)) (kk : J x w Q tgt lv st cs σ) : J x w Q pc lv (.int a :: st) cs σ :=
  fun H locs ls hS hW hl => lv_tableIn o.1 o.2.1 d h1 h2 ho ht (kk H locs ls hS hW hl)
theorem J_tableOut (o : Ok x w cc nL own ret rm) {dflt lo hi : Int} {offs : Array Int} {len : Nat} {a : Int32} (tgt : Nat) (d : decode cc pc = .ok (.tableswitch dflt lo hi offs, len)) (h : a.toInt < lo ∨ hi < a.toInt) (ht : (pc : Int) + dflt = (tgt : Int)) (kk : J x w Q tgt lv st cs σ) : J x w Q pc lv (.int a :: st) cs σ :=
  fun H locs ls hS hW hl => lv_tableOut o.1 o.2.1 d h ht (kk H locs ls hS hW hl)
theorem J_sub {lv' : List (Nat × Value)} (ks : List Nat) (hl0 : lv_pick lv ks = lv') (kk : J x w Q pc lv' st cs σ) : J x w Q pc lv st cs σ :=
  fun H locs ls hS hW hl => kk H locs ls hS hW (lv_sub hl ks hl0)
/-! fields -/
theorem f_lay {c j : Nat} (hts : ∀ q ∈ TBL, q.before (xA x) (xS x) = true) (h : u_lay (tR c) (tT c) j ∈ TBL) : (Cond.lays (tR c) (tT c j).1 (tT c j).2.1 (tT c j).2.2.1).before (xA x) (xS x) = true ∨ (Cond.laysFinal (tR c) (tT c j).1 (tT c j).2.1 (tT c j).2.2.1).before (xA x) (xS x) = true := by
  have h := hts _ h
  unfold u_lay at h
  split at h
  · exact Or.inr h
  · exact Or.inl h
/-- the j-th field of class c by entry idx of own's file -/
def Fl (own : String) (idx c j : Nat) : Prop := c < 6 ∧ j < nf c ∧ u_lay (tR c) (tT c) j ∈ TBL ∧ (Cond.fieldLink own idx (tT c j).1 (tT c j).2.1 (tT c j).2.2.1) ∈ TBL
theorem J_getV (o : Ok x w cc nL own ret rm) {idx c j k : Nat} (hf : Fl own idx c j) (hk : kd k = c) (h1 : wLo w ≤ k) (h2 : k < wHi w) (d : decode cc pc = .ok (.getfield idx, 3)) (kk : J x w Q (pc + 3) lv (fv (wB w) σ k j :: st) cs σ) : J x w Q pc lv (.ref (wB w + k) :: st) cs σ := by
  intro H locs ls hS hW hl
  obtain ⟨cell, q1, q2, q3, q4⟩ := (hW k h1 h2).obj hk hf.1
  obtain ⟨hSl, hfc, kC, hkC, hkind⟩ := o.2.2.2.2.2.2.2.2.2.1.1 c _ (t_cl hf.1)
  obtain ⟨cf, kf, fi, f, hi, hsl⟩ := hSl j hf.2.1
  refine W.getf o.1 o.2.1 o.2.2.2.1 (o.2.2.2.2.1 _ hf.2.2.2) hi (u_facts hfc hkC (f_lay o.2.2.2.2.1 hf.2.2.1) hi).1 q1 (by rw [q3]; exact fun h => by cases h) (v := fv (wB w) σ k j) ?_ rfl rfl d (kk H locs ls hS hW hl)
  rw [hsl]
  exact q4 j hf.2.1
/-- an int field read -/
theorem J_getI (o : Ok x w cc nL own ret rm) {idx c j k : Nat} (hf : Fl own idx c j) (hk : kd k = c) (h1 : wLo w ≤ k) (h2 : k < wHi w) (hi : isR c j = false) (d : decode cc pc = .ok (.getfield idx, 3)) (kk : J x w Q (pc + 3) lv (.int (σ k j) :: st) cs σ) : J x w Q pc lv (.ref (wB w + k) :: st) cs σ := by
  refine J_getV o hf hk h1 h2 d ?_
  rw [show fv (wB w) σ k j = .int (σ k j) from if_neg (by rw [hk, hi]; decide)]
  exact kk
/-- a reference read -/
theorem J_getR (o : Ok x w cc nL own ret rm) {idx c j k t : Nat} (hf : Fl own idx c j) (hk : kd k = c) (h1 : wLo w ≤ k) (h2 : k < wHi w) (hi : isR c j = true) (ht : tgt k j = t) (d : decode cc pc = .ok (.getfield idx, 3)) (kk : J x w Q (pc + 3) lv (.ref (wB w + t) :: st) cs σ) : J x w Q pc lv (.ref (wB w + k) :: st) cs σ := by
  refine J_getV o hf hk h1 h2 d ?_
  rw [show fv (wB w) σ k j = .ref (wB w + t) from (if_pos (by rw [hk, hi])).trans (by rw [ht])]
  exact kk
theorem J_apart (o : Ok x w cc nL own ret rm) {c : Nat} (hc : c < 6) (hl : ∀ k, k < nf c → u_lay (tR c) (tT c) k ∈ TBL) : ∀ a b, a < nf c → b < nf c → a ≠ b → (wD w).2 c a ≠ (wD w).2 c b := by
  refine va_apart (own := own) (Ts := TBL) o.2.2.2.2.1 (fun q hq => ?_) (tY c) (t_ty hc) (t_nm hc) o.2.2.2.2.2.2.2.2.2.1 (t_cl hc)
  obtain ⟨k, hk, rfl⟩ := List.mem_map.mp hq
  exact hl k (List.mem_range.mp hk)
/-- an int (or boolean) field written -/
theorem J_put (o : Ok x w cc nL own ret rm) {idx c j k : Nat} {v : Int32} (hf : Fl own idx c j) (hls : ∀ k, k < nf c → u_lay (tR c) (tT c) k ∈ TBL) (hk : kd k = c) (h1 : wLo w ≤ k) (h2 : k < wHi w) (hi : isR c j = false) (hfin : (tT c j).2.2.2 = false)
    (hn : narrow (tY c j) (.int v) = .int v) (hfit : fits (tY c j) (.int v) = true) (d : decode cc pc = .ok (.putfield idx, 3)) (kk : J x w Q (pc + 3) lv st cs (st2 σ k j v)) : J x w Q pc lv (.int v :: .ref (wB w + k) :: st) cs σ := by
  intro H locs ls hS hW hl
  obtain ⟨cell, q1, q2, q3, q4⟩ := (hW k h1 h2).obj hk hf.1
  have hap := J_apart o hf.1 hls
  obtain ⟨hSl, hfc, kC, hkC, hkind⟩ := o.2.2.2.2.2.2.2.2.2.1.1 c _ (t_cl hf.1)
  obtain ⟨cf, kf, fi, f, hi2, hsl⟩ := hSl j hf.2.1
  have hlay := o.2.2.2.2.1 _ hf.2.2.1
  unfold u_lay at hlay
  rw [if_neg (by rw [hfin]; decide)] at hlay
  have hst := (u_facts hfc hkC (f_lay o.2.2.2.2.1 hf.2.2.1) hi2).1
  have h6 := u_store hfc hkC hkind hlay hi2 (t_ty hf.1 j hf.2.1) hn hfit
  refine W.putK o.1 o.2.1 (f := f) ⟨o.2.2.2.1, o.2.2.2.2.1 _ hf.2.2.2, ⟨_, _, _, hi2⟩, hst⟩ (by rw [q2]; exact h6) q1 q3 (by rw [hsl]; exact k2_hasslot (q4 j hf.2.1)) rfl rfl d fun H' e1 e2 e3 => ?_
  rw [hsl] at e1 ⊢
  refine kk H' _ ls (hS.put e2 e3 (Or.inl ⟨Nat.add_le_add_left h1 _, Nat.add_lt_add_left h2 _⟩)) (fun k' h1' h2' => ?_) hl
  by_cases hkk : k' = k
  · subst hkk
    unfold Cl
    rw [hk, if_pos hf.1]
    have q5 : t_OB (wB w + k') ((wD w).1 c) (nf c) ((wD w).2 c) H' (updV (fv (wB w) σ k') j (.int v)) := ⟨_, e1, q2, q3, t_set q4 hap hf.2.1 (.int v)⟩
    refine q5.to (fun i _ => ?_)
    unfold updV fv st2
    by_cases hij : i = j
    · subst hij
      rw [if_pos rfl, if_neg (by rw [hk, hi]; decide), if_pos ⟨rfl, rfl⟩]
    · rw [if_neg hij]
      simp [hij]
  · exact (hW k' h1' h2').kept (e3 _ (fun h => hkk (Nat.add_left_cancel h))) (fun j' => st2_ne (fun h => hkk h.1))
/-! int arrays -/
/-- an int array of the world at an offset -/
def IsA (w : Wx) (a : Nat) : Prop := kd a = 6 ∧ wLo w ≤ a ∧ a < wHi w
theorem J_iald (o : Ok x w cc nL own ret rm) {a : Nat} {i : Int32} (ha : IsA w a) (hin : vp_in i (ln a)) (d : decode cc pc = .ok (.iaload, 1)) (kk : J x w Q (pc + 1) lv (.int (σ a i.toNatClampNeg) :: st) cs σ) : J x w Q pc lv (.int i :: .ref (wB w + a) :: st) cs σ := by
  intro H locs ls hS hW hl
  have hlt : i.toNatClampNeg < ln a := Nat.not_le.mp fun q => hin (Or.inr q)
  exact W.iald (v := .int (σ a i.toNatClampNeg)) o.1 o.2.1 ((hW a ha.2.1 ha.2.2).ints ha.1) (o.2.2.2.2.2.2.2.2.2.2.1 0 (by decide) _ _) (fun q => by cases q) (by rw [arrV_size]; exact hin) (by rw [arrV_read _ _ hlt]) rfl rfl d (kk H locs ls hS hW hl)
theorem J_alen (o : Ok x w cc nL own ret rm) {a : Nat} (ha : IsA w a) (d : decode cc pc = .ok (.arraylength, 1)) (kk : J x w Q (pc + 1) lv (.int (Int32.ofNat (ln a)) :: st) cs σ) : J x w Q pc lv (.ref (wB w + a) :: st) cs σ := by
  intro H locs ls hS hW hl
  exact W.alen (n := Int32.ofNat (ln a)) o.1 o.2.1 ((hW a ha.2.1 ha.2.2).ints ha.1) (o.2.2.2.2.2.2.2.2.2.2.1 0 (by decide) _ _) (by rw [arrV_size]) rfl rfl d (kk H locs ls hS hW hl)
theorem J_iast (o : Ok x w cc nL own ret rm) {a : Nat} {i v : Int32} (ha : IsA w a) (hin : vp_in i (ln a)) (d : decode cc pc = .ok (.iastore, 1)) (kk : J x w Q (pc + 1) lv st cs (st2 σ a i.toNatClampNeg v)) : J x w Q pc lv (.int v :: .int i :: .ref (wB w + a) :: st) cs σ := by
  intro H locs ls hS hW hl
  refine W.iast o.1 o.2.1 ((hW a ha.2.1 ha.2.2).ints ha.1) (o.2.2.2.2.2.2.2.2.2.2.1 0 (by decide) _ _) (fun q => by cases q) (by rw [arrV_size]; exact hin) rfl rfl d fun H' e1 e2 e3 => ?_
  refine kk H' _ ls (hS.put e2 e3 (Or.inl ⟨Nat.add_le_add_left ha.2.1 _, Nat.add_lt_add_left ha.2.2 _⟩)) (fun k' h1' h2' => ?_) hl
  by_cases hkk : k' = a
  · subst hkk
    unfold Cl
    rw [ha.1, if_neg (by decide), if_pos rfl, e1, arrV_store]
    refine congrArg some (congrArg (arrV _ _) (funext fun j => ?_))
    unfold updV st2
    by_cases hij : j = i.toNatClampNeg
    · rw [if_pos hij, if_pos ⟨rfl, hij⟩]
    · rw [if_neg hij, if_neg (fun h => hij h.2)]
  · exact (hW k' h1' h2').kept (e3 _ (fun h => hkk (Nat.add_left_cancel h))) (fun j' => st2_ne (fun h => hkk h.1))
/-! arrays of references: kind 6 + i -/
theorem J_aald (o : Ok x w cc nL own ret rm) {a t : Nat} {i : Int32} (n : Nat) (hn : n < 3) (hk : kd a = 6 + (n + 1)) (h1 : wLo w ≤ a) (h2 : a < wHi w) (hin : vp_in i (ln a)) (ht : tgt a i.toNatClampNeg = t) (d : decode cc pc = .ok (.aaload, 1)) (kk : J x w Q (pc + 1) lv (.ref (wB w + t) :: st) cs σ) : J x w Q pc lv (.int i :: .ref (wB w + a) :: st) cs σ := by
  intro H locs ls hS hW hl
  have hlt : i.toNatClampNeg < ln a := Nat.not_le.mp fun q => hin (Or.inr q)
  exact W.aald (v := .ref (wB w + t)) (ty := tyA (n + 1)) o.1 o.2.1 ((hW a h1 h2).refs hk (Nat.succ_pos n)) (o.2.2.2.2.2.2.2.2.2.2.1 (n + 1) (by omega) _ _) (by rcases (show n = 0 ∨ n = 1 ∨ n = 2 by omega) with rfl | rfl | rfl <;> rfl) (fun q => by cases q) (by rw [arrV_size]; exact hin) (by rw [arrV_read _ _ hlt, ht]) rfl rfl d (kk H locs ls hS hW hl)
theorem J_alenR (o : Ok x w cc nL own ret rm) {a : Nat} (n : Nat) (hn : n < 3) (hk : kd a = 6 + (n + 1)) (h1 : wLo w ≤ a) (h2 : a < wHi w) (d : decode cc pc = .ok (.arraylength, 1)) (kk : J x w Q (pc + 1) lv (.int (Int32.ofNat (ln a)) :: st) cs σ) : J x w Q pc lv (.ref (wB w + a) :: st) cs σ := by
  intro H locs ls hS hW hl
  exact W.alen (n := Int32.ofNat (ln a)) (ty := tyA (n + 1)) o.1 o.2.1 ((hW a h1 h2).refs hk (Nat.succ_pos n)) (o.2.2.2.2.2.2.2.2.2.2.1 (n + 1) (by omega) _ _) (by rw [arrV_size]) rfl rfl d (kk H locs ls hS hW hl)
/-! static tables -/
theorem J_tab (o : Ok x w cc nL own ret rm) {t : Nat} {f : Nat → Int32} {i : Int32} (hT : va_T .int t 9 (fun j => .int (f j)) (Lo w) (xS x) (xS x).heap) (hin : vp_in i 9) (d : decode cc pc = .ok (.iaload, 1)) (kk : J x w Q (pc + 1) lv (.int (f i.toNatClampNeg) :: st) cs σ) : J x w Q pc lv (.int i :: .ref t :: st) cs σ :=
  fun H locs ls hS hW hl => va_ti o.1 o.2.1 (hT.narrow (fun _ h => Ar.lo o.2.2.2.2.2.2.2.2.1 h)) hS hin rfl d (kk H locs ls hS hW hl)
theorem J_east (o : Ok x w cc nL own ret rm) {idx : Nat} (hq : (own, idx, "SeaMeeting", "EAST", "[I", "SeaMeeting") ∈ nestF) (d : decode cc pc = .ok (.getstatic idx, 3)) (kk : ∀ t, va_T .int t 9 (fun j => .int (eastT j)) (Lo w) (xS x) (xS x).heap → J x w Q (pc + 3) lv (.ref t :: st) cs σ) : J x w Q pc lv st cs σ := by
  intro H locs ls hS hW hl
  obtain ⟨hB, -, -, hN, -, ⟨t, hZ, hT⟩, -⟩ := o.2.2.2.2.2.2.2.2
  exact va_getsN o.1 o.2.1 (hZ.narrow (fun _ h => Ar.lo hB h)) hS o.2.2.2.1 ((hN _ hq).use rfl) (fun _ h => h) d (kk t hT H locs ls hS hW hl)
theorem J_north (o : Ok x w cc nL own ret rm) {idx : Nat} (hq : (own, idx, "SeaMeeting", "NORTH", "[I", "SeaMeeting") ∈ nestF) (d : decode cc pc = .ok (.getstatic idx, 3)) (kk : ∀ t, va_T .int t 9 (fun j => .int (northT j)) (Lo w) (xS x) (xS x).heap → J x w Q (pc + 3) lv (.ref t :: st) cs σ) : J x w Q pc lv st cs σ := by
  intro H locs ls hS hW hl
  obtain ⟨hB, -, -, hN, -, -, ⟨t, hZ, hT⟩, -⟩ := o.2.2.2.2.2.2.2.2
  exact va_getsN o.1 o.2.1 (hZ.narrow (fun _ h => Ar.lo hB h)) hS o.2.2.2.1 ((hN _ hq).use rfl) (fun _ h => h) d (kk t hT H locs ls hS hW hl)
/-- a String constant -/
theorem J_ldcS (o : Ok x w cc nL own ret rm) {idx i : Nat} {tx : String} (hq : (own, idx, tx, i) ∈ sRef) (d : decode cc pc = .ok (.ldc idx, 2)) (kk : J x w Q (pc + 2) lv (.ref (wK w i) :: st) cs σ) : J x w Q pc lv st cs σ :=
  fun H locs ls hS hW hl => va_ldcS o.1 o.2.1 o.2.2.2.1 (o.2.2.2.2.2.2.2.2.2.2.2.2.2.2.2.2.1 _ hq) d (kk H locs ls hS hW hl)
/-! Math -/
theorem J_min (o : Ok x w cc nL own ret rm) {idx : Nat} {a b : Int32} (hl0 : Cond.methodLink own idx Lib.Math.min.name ∈ TBL) (hs : Cond.static Lib.Math.min.name ∈ TBL) (hi : Cond.initialized "java/lang/Math" ∈ TBL) (hc : Cond.code Lib.Math.min.name Lib.Math.min.code 2 (some .int) ∈ TBL)
    (hR : 1 ≤ rm.frames ∧ (st.map fun v => v.category).sum + 13 ≤ rm.locals ∧ cs.1 ≤ rm.cells ∧ cs.2 ≤ rm.slots) (d : decode cc pc = .ok (.invokestatic idx, 3)) (kk : J x w Q (pc + 3) lv (.int (if b < a then b else a) :: st) cs σ) : J x w Q pc lv (.int b :: .int a :: st) cs σ :=
  fun H locs ls hS hW hl => va_mmin o.1 o.2.1 hl.1.symm o.2.2.2.1 (o.2.2.2.2.1 _ hl0) (o.2.2.2.2.1 _ hs) (o.2.2.2.2.1 _ hi) (o.2.2.2.2.1 _ hc) (by rw [o.2.2.2.2.2.2.2.1]; exact hR.1) (by rw [o.2.2.2.2.2.2.2.1]; exact hR.2.1) (by rw [o.2.2.2.2.2.2.2.1]; exact hR.2.2.1) (by rw [o.2.2.2.2.2.2.2.1]; exact hR.2.2.2) d (kk H locs ls hS hW hl)
theorem J_max (o : Ok x w cc nL own ret rm) {idx : Nat} {a b : Int32} (hl0 : Cond.methodLink own idx Lib.Math.max.name ∈ TBL) (hs : Cond.static Lib.Math.max.name ∈ TBL) (hi : Cond.initialized "java/lang/Math" ∈ TBL) (hc : Cond.code Lib.Math.max.name Lib.Math.max.code 2 (some .int) ∈ TBL)
    (hR : 1 ≤ rm.frames ∧ (st.map fun v => v.category).sum + 13 ≤ rm.locals ∧ cs.1 ≤ rm.cells ∧ cs.2 ≤ rm.slots) (d : decode cc pc = .ok (.invokestatic idx, 3)) (kk : J x w Q (pc + 3) lv (.int (if a < b then b else a) :: st) cs σ) : J x w Q pc lv (.int b :: .int a :: st) cs σ :=
  fun H locs ls hS hW hl => va_mmax o.1 o.2.1 hl.1.symm o.2.2.2.1 (o.2.2.2.2.1 _ hl0) (o.2.2.2.2.1 _ hs) (o.2.2.2.2.1 _ hi) (o.2.2.2.2.1 _ hc) (by rw [o.2.2.2.2.2.2.2.1]; exact hR.1) (by rw [o.2.2.2.2.2.2.2.1]; exact hR.2.1) (by rw [o.2.2.2.2.2.2.2.1]; exact hR.2.2.1) (by rw [o.2.2.2.2.2.2.2.1]; exact hR.2.2.2) d (kk H locs ls hS hW hl)
theorem J_abs (o : Ok x w cc nL own ret rm) {idx : Nat} {a : Int32} (hl0 : Cond.methodLink own idx Lib.Math.abs.name ∈ TBL) (hs : Cond.static Lib.Math.abs.name ∈ TBL) (hi : Cond.initialized "java/lang/Math" ∈ TBL) (hc : Cond.code Lib.Math.abs.name Lib.Math.abs.code 1 (some .int) ∈ TBL)
    (hR : 1 ≤ rm.frames ∧ (st.map fun v => v.category).sum + 13 ≤ rm.locals ∧ cs.1 ≤ rm.cells ∧ cs.2 ≤ rm.slots) (d : decode cc pc = .ok (.invokestatic idx, 3)) (kk : J x w Q (pc + 3) lv (.int (if 0 ≤ a then a else 0 - a) :: st) cs σ) : J x w Q pc lv (.int a :: st) cs σ :=
  fun H locs ls hS hW hl => va_mabs o.1 o.2.1 hl.1.symm o.2.2.2.1 (o.2.2.2.2.1 _ hl0) (o.2.2.2.2.1 _ hs) (o.2.2.2.2.1 _ hi) (o.2.2.2.2.1 _ hc) (by rw [o.2.2.2.2.2.2.2.1]; exact hR.1) (by rw [o.2.2.2.2.2.2.2.1]; exact hR.2.1) (by rw [o.2.2.2.2.2.2.2.1]; exact hR.2.2.1) (by rw [o.2.2.2.2.2.2.2.1]; exact hR.2.2.2) d (kk H locs ls hS hW hl)
/-! System.arraycopy -/
def cp2 (σ : Sg) (a sp b dp n : Nat) : Sg := fun k i => if k = b ∧ dp ≤ i ∧ i < dp + n then σ a (sp + (i - dp)) else σ k i
theorem J_copy (o : Ok x w cc nL own ret rm) {idx a b : Nat} {sp dp n : Int32} (hl0 : Cond.methodLink own idx arraycopyName ∈ TBL) (hnat : Cond.native arraycopyName ∈ TBL) (hstat : Cond.static arraycopyName ∈ TBL) (hini : Cond.initialized "java/lang/System" ∈ TBL)
    (ha : IsA w a) (hb : IsA w b) (h1 : ¬ sp < 0) (h2 : ¬ dp < 0) (h3 : ¬ n < 0) (h4 : sp.toNatClampNeg + n.toNatClampNeg ≤ ln a) (h5 : dp.toNatClampNeg + n.toNatClampNeg ≤ ln b)
    (hR : 1 ≤ rm.frames ∧ (st.map fun v => v.category).sum + (nativeFrameWords "java/lang/System" "arraycopy" 5 + 11) ≤ rm.locals) (d : decode cc pc = .ok (.invokestatic idx, 3))
    (kk : J x w Q (pc + 3) lv st cs (cp2 σ a sp.toNatClampNeg b dp.toNatClampNeg n.toNatClampNeg)) : J x w Q pc lv (.int n :: .int dp :: .ref (wB w + b) :: .int sp :: .ref (wB w + a) :: st) cs σ := by
  intro H locs ls hS hW hl
  have nn : ∀ z : Int32, ¬ z < 0 → z.toInt = (z.toNatClampNeg : Int) := by
    intro z hz
    have hz0 : (0 : Int) ≤ z.toInt := by
      have := Int32.not_lt.mp hz
      simpa using Int32.le_iff_toInt_le.mp this
    show z.toInt = ((z.toInt.toNat : Nat) : Int)
    omega
  have hc0 := (hW a ha.2.1 ha.2.2).ints ha.1
  have hc1 := (hW b hb.2.1 hb.2.2).ints hb.1
  have hAr := o.2.2.2.2.2.2.2.2.2.2.1 0 (by decide)
  intro T hT X
  obtain ⟨-, k0, hk0, cm0, hkk0⟩ := hAr (ln a) (fun j => .int (σ a j))
  obtain ⟨-, k1, hk1, cm1, hkk1⟩ := hAr (ln b) (fun j => .int (σ b j))
  have hb' := o.2.1
  have hml := hl.1
  obtain ⟨vm', X', step⟩ := X.arraycopy o.1 o.2.2.2.1 (o.2.2.2.2.1 _ hl0) (o.2.2.2.2.1 _ hnat) (o.2.2.2.2.1 _ hstat) (o.2.2.2.2.1 _ hini) (src := wB w + a) (dst := wB w + b) (cs := arrV (wT w 0) (ln a) (fun j => .int (σ a j))) (cd := arrV (wT w 0) (ln b) (fun j => .int (σ b j))) (srcPos := sp) (destPos := dp) (n := n) (by rw [hT]; exact hc0) (by rw [hT]; exact hc1)
    (fun _ h => by cases h) (fun _ h => by cases h) (fun h => by cases h) (fun h => by cases h) hk0 hk1 hkk0 hkk1 (by simp [refKind, tyA]) h1 h2 h3
    (by rw [nn sp h1, nn n h3, arrV_size]; omega)
    (by rw [nn dp h2, nn n h3]; show ¬ _ > ((arrV (wT w 0) (ln b) (fun j => .int (σ b j))).slots.size : Int); rw [arrV_size]; omega)
    (fun vm₁ _ i hi => by
      have e : (arrV (wT w 0) (ln a) (fun j => .int (σ a j))).slots.getD (sp.toNatClampNeg + i) .null = .int (σ a (sp.toNatClampNeg + i)) := by
        rw [Array.getD_eq_getD_getElem?, arrV_read _ _ (by omega)]
        rfl
      refine ⟨?_, ?_⟩
      · rw [e]
        rfl
      · rw [e]
        exact trivial)
    (g := F0 (xM x) pc ls (.int n :: .int dp :: .ref (wB w + b) :: .int sp :: .ref (wB w + a) :: st)) rfl (by rw [hml]) (rest := st) rfl (by rw [hb']; exact d) (by rw [o.2.2.2.2.2.2.2.1]; exact hR.1) (by rw [o.2.2.2.2.2.2.2.1]; show 2 * 0 + _ + _ ≤ _; have := hR.2; omega)
  have e1 : copied (arrV (wT w 0) (ln a) (fun j => .int (σ a j))) (arrV (wT w 0) (ln b) (fun j => .int (σ b j))) sp dp n = arrV (wT w 0) (ln b) (fun j => .int (va_cpy (σ a) (σ b) sp.toNatClampNeg dp.toNatClampNeg n.toNatClampNeg j)) := va_copiedX (fun z => .int z) _ (wT w 0) (σ a) (σ b) (n0 := ln a) (fun j hj => arrV_read _ _ hj) h4
  rw [e1] at X' step
  have hl' : wB w + b < H.size := (Array.getElem?_eq_some_iff.mp hc1).1
  obtain ⟨nc, hnc⟩ : ∃ z, z = arrV (wT w 0) (ln b) (fun j => .int (va_cpy (σ a) (σ b) sp.toNatClampNeg dp.toNatClampNeg n.toNatClampNeg j)) := ⟨_, rfl⟩
  rw [← hnc] at X' step
  have hheap : ((T.setVm vm').setCell (wB w + b) nc).heap = H.setIfInBounds (wB w + b) nc := by rw [← hT]; rfl
  have oq : ∀ q : Nat, q ≠ wB w + b → (H.setIfInBounds (wB w + b) nc)[q]? = H[q]? := fun q hq => by simp [Array.getElem?_setIfInBounds, Ne.symm hq]
  have oA : Ar w (xS x).heap.size (wB w + b) := Or.inl ⟨Nat.add_le_add_left hb.2.1 _, Nat.add_lt_add_left hb.2.2 _⟩
  obtain ⟨t, a1, b1⟩ := kk _ _ ls ⟨by simp; exact hS.1, fun q g1 g2 => by
      rw [oq q (fun e => g2 (by rw [e]; exact oA))]
      exact hS.2.1 q g1 g2, fun q hq => by
      rcases List.mem_append.mp hq with h | h
      · exact hS.2.2 q h
      · obtain ⟨z, -, hz⟩ := List.mem_map.mp h
        rw [← hz]
        exact oA⟩ (fun k' h1' h2' => by
      by_cases hkk : k' = b
      · subst hkk
        unfold Cl
        rw [hb.1, if_neg (by decide), if_pos rfl, show (H.setIfInBounds (wB w + k') nc)[wB w + k']? = some nc by simp [Array.getElem?_setIfInBounds, hl'], hnc]
        refine congrArg some (congrArg (arrV _ _) (funext fun j => ?_))
        unfold va_cpy cp2
        by_cases hij : dp.toNatClampNeg ≤ j ∧ j < dp.toNatClampNeg + n.toNatClampNeg
        · rw [if_pos hij, if_pos ⟨rfl, hij⟩]
        · rw [if_neg hij, if_neg (fun h => hij h.2)]
      · exact (hW k' h1' h2').kept (oq _ (fun h => hkk (Nat.add_left_cancel h))) (fun j' => if_neg (fun h => hkk h.1))) hl _ hheap X'
  exact ⟨t, step t a1, b1⟩
/-! calls -/
def PI (K : Int32 → Sg → Prop) : Outcome → Sg → Prop := fun o σ => ∃ r, o = .returned (some (.int r)) ∧ K r σ
def PZ (K : Int32 → Sg → Prop) : Outcome → Sg → Prop := fun o σ => ∃ r, o = .returned (some (.int r)) ∧ (r = 0 ∨ r = 1) ∧ K r σ
def PV (K : Sg → Prop) : Outcome → Sg → Prop := fun o σ => o = .returned none ∧ K σ
def PL (K : Int64 → Sg → Prop) : Outcome → Sg → Prop := fun o σ => ∃ r, o = .returned (some (.long r)) ∧ K r σ
def PA (w : Wx) (T : Nat → Prop) (K : Nat → Sg → Prop) : Outcome → Sg → Prop := fun o σ => ∃ k, o = .returned (some (.ref (wB w + k))) ∧ T k ∧ K k σ
def PS (w : Wx) (K : Nat → Sg → Prop) : Outcome → Sg → Prop := fun o σ => ∃ k, o = .returned (some (.ref (wK w k))) ∧ k < nS ∧ K k σ
theorem aI {K : Int32 → Sg → Prop} (kk : ∀ r σ', K r σ' → J x w Q pc lv (.int r :: st) cs σ') : ∀ v σ', PI K (.returned v) σ' → J x w Q pc lv (v.toList ++ st) cs σ' := by
  rintro v σ' ⟨r, hv, h⟩
  cases hv
  exact kk r σ' h
theorem aZ {K : Int32 → Sg → Prop} (kk : ∀ r σ', (r = 0 ∨ r = 1) → K r σ' → J x w Q pc lv (.int r :: st) cs σ') : ∀ v σ', PZ K (.returned v) σ' → J x w Q pc lv (v.toList ++ st) cs σ' := by
  rintro v σ' ⟨r, hv, h1, h⟩
  cases hv
  exact kk r σ' h1 h
theorem aV {K : Sg → Prop} (kk : ∀ σ', K σ' → J x w Q pc lv st cs σ') : ∀ v σ', PV K (.returned v) σ' → J x w Q pc lv (v.toList ++ st) cs σ' := by
  rintro v σ' ⟨hv, h⟩
  cases hv
  exact kk σ' h
theorem aL {K : Int64 → Sg → Prop} (kk : ∀ r σ', K r σ' → J x w Q pc lv (.long r :: st) cs σ') : ∀ v σ', PL K (.returned v) σ' → J x w Q pc lv (v.toList ++ st) cs σ' := by
  rintro v σ' ⟨r, hv, h⟩
  cases hv
  exact kk r σ' h
theorem aA {T : Nat → Prop} {K : Nat → Sg → Prop} (kk : ∀ k σ', T k → K k σ' → J x w Q pc lv (.ref (wB w + k) :: st) cs σ') : ∀ v σ', PA w T K (.returned v) σ' → J x w Q pc lv (v.toList ++ st) cs σ' := by
  rintro v σ' ⟨r, hv, h1, h⟩
  cases hv
  exact kk r σ' h1 h
theorem aS {K : Nat → Sg → Prop} (kk : ∀ k σ', k < nS → K k σ' → J x w Q pc lv (.ref (wK w k) :: st) cs σ') : ∀ v σ', PS w K (.returned v) σ' → J x w Q pc lv (v.toList ++ st) cs σ' := by
  rintro v σ' ⟨r, hv, h1, h⟩
  cases hv
  exact kk r σ' h1 h
/-- what the tables say of a method: code, its class, how many parameters -/
def Mth (y : MethodName) (bytes : ByteArray) (maxL : Nat) (rt : Option FieldType) (n : Nat) : Prop :=
  Cond.code y bytes maxL rt ∈ TBL ∧ Cond.initialized y.cls ∈ TBL ∧ (y.cls ≠ "java/lang/invoke/MethodHandle" ∧ y.cls ≠ "java/lang/invoke/VarHandle") ∧ (parseMethodDescriptor y.desc).map (fun d => d.parameters.length) = some n
theorem Mth.len {y : MethodName} {bytes : ByteArray} {maxL : Nat} {rt : Option FieldType} {n : Nat} (h : Mth y bytes maxL rt n) : ∀ sig, parseMethodDescriptor y.desc = some sig → n = sig.parameters.length := by
  intro sig hs
  have h2 := h.2.2.2
  rw [hs] at h2
  exact (Option.some.inj h2).symm
theorem J_fix (o : Ok x w cc nL own ret rm) : CallFix (xP x) (xM x) (xC x) cc nL (xS x) (xA x) TBL own := ⟨o.1, o.2.1, o.2.2.1, o.2.2.2.1, o.2.2.2.2.1⟩
theorem J_cB (o : Ok x w cc nL own ret rm) {y : MethodName} {bytes : ByteArray} {maxL n idx : Nat} {rt : Option FieldType} {r2 : Room} (hm : Mth y bytes maxL rt n) (hl : Cond.methodLink own idx y ∈ TBL) (hR : r2.frames + 1 ≤ rm.frames ∧ 8 + (maxL + 11) + r2.locals ≤ rm.locals) :
    CallB (xR x) (xS x) (xA x) own idx y bytes maxL rt (.code y bytes maxL rt :: TBL) r2 r2.cells r2.slots n :=
  ⟨rfl, rfl, by rw [o.2.2.2.2.2.2.2.1]; exact hR.1, by rw [o.2.2.2.2.2.2.2.1]; exact hR.2, pay_in o.2.2.2.2.1 (tb_goodL y bytes maxL rt hm.1), List.mem_cons_self, o.2.2.2.2.1 _ hm.1, o.2.2.2.2.1 _ hm.2.1, hm.2.2.1, hm.len, o.2.2.2.2.1 _ hl⟩
theorem J_cN (o : Ok x w cc nL own ret rm) {y : MethodName} {bytes : ByteArray} {maxL n idx : Nat} {rt : Option FieldType} {r2 : Room} {host : String} (hm : Mth y bytes maxL rt n) (hl : (own, idx, y, host) ∈ nestM) (hR : r2.frames + 1 ≤ rm.frames ∧ 8 + (maxL + 11) + r2.locals ≤ rm.locals) :
    va_CN (xR x) (xS x) (xA x) own idx y host bytes maxL rt (.code y bytes maxL rt :: TBL) r2 r2.cells r2.slots n :=
  ⟨⟨rfl, rfl, by rw [o.2.2.2.2.2.2.2.1]; exact hR.1, by rw [o.2.2.2.2.2.2.2.1]; exact hR.2, pay_in o.2.2.2.2.1 (tb_goodL y bytes maxL rt hm.1), List.mem_cons_self⟩, o.2.2.2.2.1 _ hm.1, o.2.2.2.2.1 _ hm.2.1, hm.2.2.1, hm.len, (o.2.2.2.2.2.2.2.2.2.2.2.2.1 _ hl).use rfl⟩
theorem J_pre (o : Ok x w cc nL own ret rm) {H : Heap} {locs : List Loc} {As : List Value} (hS : va_S (Ar w (xS x).heap.size) (xS x).heap H locs) (hW : Wd w σ H) : PreS (xS x) H (PreC w As σ H.size) As :=
  ⟨PreC.blind, fun U hU hWm => ⟨rfl, by rw [hU], by rw [hU]; exact o.2.2.2.2.2.2.2.2.at hS hWm, by rw [hU]; exact hW⟩⟩
theorem J_after {H : Heap} {locs : List Loc} {ls : Array Slot} {st0 : List Value} {mc ms : Nat} {a : Array Value} {P : Outcome → Sg → Prop} (hS : va_S (Ar w (xS x).heap.size) (xS x).heap H locs) (hl : lv_has ls (xC x).maxLocals lv)
    (hr : va_Run (xP x) (xL x) (xE x) (xR x) (xS x) (xM x) (xA x) (xW x) (xY x) (xC x) H locs cs.1 cs.2 mc ms (F0 (xM x) pc ls st0) st (PostC w P a) (Ar w H.size))
    (kk : ∀ v σ', P (.returned v) σ' → J x w Q (pc + 3) lv (v.toList ++ st) (cs.1 + mc, cs.2 + ms) σ') : W (xP x) (xL x) (xE x) (xR x) (xS x) (xM x) (xA x) (xW x) (xY x) (xC x) H locs cs.1 cs.2 Q (F0 (xM x) pc ls st0) := by
  have hA : ∀ q, Ar w H.size q → Ar w (xS x).heap.size q := fun q h => h.imp id (fun z => Nat.le_trans hS.1 z)
  intro T hT X
  obtain ⟨v, st₀, t, T', L, h0, X', hL, e1, e2, ⟨⟨σ', hp, hw⟩, hz, hk⟩, go⟩ := hr T hT X
  rw [h0] at hz hk
  have hS' : va_S (Ar w (xS x).heap.size) (xS x).heap T'.heap (locs ++ L) := ⟨Nat.le_trans hS.1 (by rw [e1]; exact hz), fun q h1 h2 => by rw [e1, hk q (Nat.lt_of_lt_of_le h1 hS.1) (fun z => h2 (hA q z))]; exact hS.2.1 q h1 h2, fun q hq => by
      rcases List.mem_append.mp hq with h | h
      · exact hS.2.2 q h
      · exact hA _ (hL q h)⟩
  obtain ⟨t2, a1, b1⟩ := kk v σ' hp T'.heap (locs ++ L) ls hS' (by rw [e1]; exact hw) hl T' rfl X'
  exact ⟨t2, go t2 a1, b1⟩
theorem J_callS (o : Ok x w cc nL own ret rm) {y : MethodName} {bytes : ByteArray} {maxL n idx : Nat} {rt : Option FieldType} {r2 : Room} {P : Outcome → Sg → Prop} {st0 : List Value} (As : List Value) (hm : Mth y bytes maxL rt n) (hs : Cond.static y ∈ TBL) (hl0 : Cond.methodLink own idx y ∈ TBL) (hR : r2.frames + 1 ≤ rm.frames ∧ 8 + (maxL + 11) + r2.locals ≤ rm.locals)
    (hn : As.length = n) (hstack : st0 = As.reverse ++ st) (hr8 : (st.map fun v => v.category).sum ≤ 8) (hcs : cs.1 + r2.cells ≤ rm.cells ∧ cs.2 + r2.slots ≤ rm.slots) (d : decode cc pc = .ok (.invokestatic idx, 3)) (hC : Ct (xL x) w y bytes maxL rt r2 As σ P)
    (kk : ∀ v σ', P (.returned v) σ' → J x w Q (pc + 3) lv (v.toList ++ st) (cs.1 + r2.cells, cs.2 + r2.slots) σ') : J x w Q pc lv st0 cs σ := by
  intro H locs ls hS hW hl
  subst hstack
  exact J_after hS hl (va_runS (J_fix o) (hC H.size) ⟨J_cB o hm hl0 hR, o.2.2.2.2.1 _ hs⟩ (J_pre o hS hW) rfl hn (hl.1.trans o.2.2.1) rfl (lv_room hr8) d (by rw [o.2.2.2.2.2.2.2.1]; exact hcs)) kk
theorem J_callSN (o : Ok x w cc nL own ret rm) {y : MethodName} {bytes : ByteArray} {maxL n idx : Nat} {rt : Option FieldType} {r2 : Room} {host : String} {P : Outcome → Sg → Prop} {st0 : List Value} (As : List Value) (hm : Mth y bytes maxL rt n) (hs : Cond.static y ∈ TBL) (hl0 : (own, idx, y, host) ∈ nestM) (hR : r2.frames + 1 ≤ rm.frames ∧ 8 + (maxL + 11) + r2.locals ≤ rm.locals)
    (hn : As.length = n) (hstack : st0 = As.reverse ++ st) (hr8 : (st.map fun v => v.category).sum ≤ 8) (hcs : cs.1 + r2.cells ≤ rm.cells ∧ cs.2 + r2.slots ≤ rm.slots) (d : decode cc pc = .ok (.invokestatic idx, 3)) (hC : Ct (xL x) w y bytes maxL rt r2 As σ P)
    (kk : ∀ v σ', P (.returned v) σ' → J x w Q (pc + 3) lv (v.toList ++ st) (cs.1 + r2.cells, cs.2 + r2.slots) σ') : J x w Q pc lv st0 cs σ := by
  intro H locs ls hS hW hl
  subst hstack
  exact J_after hS hl (va_runSN (J_fix o) (hC H.size) ⟨J_cN o hm hl0 hR, o.2.2.2.2.1 _ hs, trivial⟩ (J_pre o hS hW) rfl hn (hl.1.trans o.2.2.1) rfl (lv_room hr8) d (by rw [o.2.2.2.2.2.2.2.1]; exact hcs)) kk
theorem J_recv (o : Ok x w cc nL own ret rm) {H : Heap} {k c : Nat} (hW : Wd w σ H) (hk : kd k = c) (hc : c < 6) (h1 : wLo w ≤ k) (h2 : k < wHi w) : ∃ cellB : Cell, H[wB w + k]? = some cellB ∧ cellB.vm.isStatics = false ∧ (xS x).vm.findClass (tR c) = some cellB.cls := by
  obtain ⟨cell, q1, q2, q3, -⟩ := (hW k h1 h2).obj hk hc
  obtain ⟨-, hfc, -⟩ := o.2.2.2.2.2.2.2.2.2.1.1 c _ (t_cl hc)
  exact ⟨cell, q1, by rw [q3]; rfl, by rw [q2]; exact hfc⟩
theorem J_callV (o : Ok x w cc nL own ret rm) {y : MethodName} {bytes : ByteArray} {maxL n idx k c : Nat} {rt : Option FieldType} {r2 : Room} {P : Outcome → Sg → Prop} {st0 : List Value} (As : List Value) (hk : kd k = c) (hc : c < 6) (h1 : wLo w ≤ k) (h2 : k < wHi w) (hm : Mth y bytes maxL rt n) (hs : Cond.instanceMethod y ∈ TBL ∧ Cond.selects (tR c) y y ∈ TBL) (hl0 : Cond.methodLink own idx y ∈ TBL) (hR : r2.frames + 1 ≤ rm.frames ∧ 8 + (maxL + 11) + r2.locals ≤ rm.locals)
    (hn : As.length = n) (hstack : st0 = As.reverse ++ .ref (wB w + k) :: st) (hr8 : (st.map fun v => v.category).sum ≤ 8) (hcs : cs.1 + r2.cells ≤ rm.cells ∧ cs.2 + r2.slots ≤ rm.slots) (d : decode cc pc = .ok (.invokevirtual idx, 3)) (hC : Ct (xL x) w y bytes maxL rt r2 (.ref (wB w + k) :: As) σ P)
    (kk : ∀ v σ', P (.returned v) σ' → J x w Q (pc + 3) lv (v.toList ++ st) (cs.1 + r2.cells, cs.2 + r2.slots) σ') : J x w Q pc lv st0 cs σ := by
  intro H locs ls hS hW hl
  subst hstack
  have hp := J_pre (As := .ref (wB w + k) :: As) o hS hW
  exact J_after hS hl (va_runV (C := tR c) (b := wB w + k) (J_fix o) (hC H.size) ⟨J_cB o hm hl0 hR, o.2.2.2.2.1 _ hs.1, o.2.2.2.2.1 _ hs.2⟩ ⟨hp.1, J_recv o hW hk hc h1 h2, hp.2⟩ rfl hn (hl.1.trans o.2.2.1) rfl (lv_room hr8) d (by rw [o.2.2.2.2.2.2.2.1]; exact hcs)) kk
/-- a call on a String constant -/
theorem J_callT (o : Ok x w cc nL own ret rm) {y : MethodName} {bytes : ByteArray} {maxL n idx k : Nat} {rt : Option FieldType} {r2 : Room} {P : Outcome → Sg → Prop} {st0 : List Value} (As : List Value) (hk : k < nS) (hm : Mth y bytes maxL rt n) (hs : Cond.instanceMethod y ∈ TBL ∧ Cond.selects "java/lang/String" y y ∈ TBL) (hl0 : Cond.methodLink own idx y ∈ TBL) (hR : r2.frames + 1 ≤ rm.frames ∧ 8 + (maxL + 11) + r2.locals ≤ rm.locals)
    (hn : As.length = n) (hstack : st0 = As.reverse ++ .ref (wK w k) :: st) (hr8 : (st.map fun v => v.category).sum ≤ 8) (hcs : cs.1 + r2.cells ≤ rm.cells ∧ cs.2 + r2.slots ≤ rm.slots) (d : decode cc pc = .ok (.invokevirtual idx, 3)) (hC : Ct (xL x) w y bytes maxL rt r2 (.ref (wK w k) :: As) σ P)
    (kk : ∀ v σ', P (.returned v) σ' → J x w Q (pc + 3) lv (v.toList ++ st) (cs.1 + r2.cells, cs.2 + r2.slots) σ') : J x w Q pc lv st0 cs σ := by
  intro H locs ls hS hW hl
  subst hstack
  have hp := J_pre (As := .ref (wK w k) :: As) o hS hW
  have hB := o.2.2.2.2.2.2.2.2.1
  exact J_after hS hl (va_runV (C := "java/lang/String") (b := wK w k) (J_fix o) (hC H.size) ⟨J_cB o hm hl0 hR, o.2.2.2.2.1 _ hs.1, o.2.2.2.2.1 _ hs.2⟩ ⟨hp.1, vs_recv (o.2.2.2.2.2.2.2.2.2.2.2.2.2.2.2.1.narrow (fun _ h => Ar.lo hB h)) hk hS, hp.2⟩ rfl hn (hl.1.trans o.2.2.1) rfl (lv_room hr8) d (by rw [o.2.2.2.2.2.2.2.1]; exact hcs)) kk
/-! ends -/
theorem J_post {P : Outcome → Sg → Prop} {oc : Outcome} {H : Heap} {locs : List Loc} (hS : va_S (Ar w (xS x).heap.size) (xS x).heap H locs) (hW : Wd w σ H) (h : P oc σ) : ∀ t : State, t.heap = H → (xS x).WarmedH t.vm → PostC w P (xA x) (xS x) oc t :=
  fun t ht _ => ⟨⟨σ, h, by rw [ht]; exact hW⟩, hS.F ht⟩
theorem J_iret (o : Ok x w cc nL own (some .int) rm) {P : Outcome → Sg → Prop} {v : Int32} (d : decode cc pc = .ok (.ireturn, 1)) (h : P (.returned (some (.int v))) σ) : J x w (FinC x w P cs) pc lv [.int v] cs σ :=
  fun H locs ls hS hW hl => W.iret (hlocks := o.2.2.2.2.2.1) o.1 o.2.1 o.2.2.2.2.2.2.1 (J_post hS hW h) hS.2.2 d
theorem J_zret (o : Ok x w cc nL own (some .boolean) rm) {P : Outcome → Sg → Prop} {v : Int32} (hv : v = 0 ∨ v = 1) (d : decode cc pc = .ok (.ireturn, 1)) (h : P (.returned (some (.int v))) σ) : J x w (FinC x w P cs) pc lv [.int v] cs σ :=
  fun H locs ls hS hW hl => W.zret (hlocks := o.2.2.2.2.2.1) o.1 o.2.1 o.2.2.2.2.2.2.1 (by rcases hv with rfl | rfl <;> rfl) (J_post hS hW h) hS.2.2 d
theorem J_vret (o : Ok x w cc nL own none rm) {P : Outcome → Sg → Prop} (d : decode cc pc = .ok (.return_, 1)) (h : P (.returned none) σ) : J x w (FinC x w P cs) pc lv [] cs σ :=
  fun H locs ls hS hW hl => W.vret (hlocks := o.2.2.2.2.2.1) o.1 o.2.1 o.2.2.2.2.2.2.1 (J_post hS hW h) hS.2.2 d
theorem J_lret (o : Ok x w cc nL own (some .long) rm) {P : Outcome → Sg → Prop} {v : Int64} (d : decode cc pc = .ok (.lreturn, 1)) (h : P (.returned (some (.long v))) σ) : J x w (FinC x w P cs) pc lv [.long v] cs σ :=
  fun H locs ls hS hW hl => W.lret (hlocks := o.2.2.2.2.2.1) o.1 o.2.1 o.2.2.2.2.2.2.1 (J_post hS hW h) hS.2.2 d
theorem J_aret {rt : FieldType} (o : Ok x w cc nL own (some rt) rm) {P : Outcome → Sg → Prop} {a : Nat} (hrt : (∃ n, rt = .object n) ∨ ∃ t, rt = .array t) (d : decode cc pc = .ok (.areturn, 1)) (h : P (.returned (some (.ref a))) σ) : J x w (FinC x w P cs) pc lv [.ref a] cs σ :=
  fun H locs ls hS hW hl => W.aret (hlocks := o.2.2.2.2.2.1) o.1 o.2.1 o.2.2.2.2.2.2.1 hrt (Or.inr ⟨_, rfl⟩) (J_post hS hW h) hS.2.2 d
end
end
section
/-! which offsets hold what -/
abbrev Wy : Type := Nat × va_G × (Nat → ClassId) × (Nat → Nat) × (Nat → Nat)
abbrev wC (b : Wy) : Wx := ((0, 347, b.1), b.2)
abbrev wM (b : Wy) : Wx := ((347, 549, b.1), b.2)
theorem vp_lt {i : Int32} {n : Nat} (h : vp_in i n) : i.toNatClampNeg < n := Nat.not_le.mp fun q => h (Or.inr q)
theorem vpc {a n : Nat} {i : Int32} (hl : ln a = n) (h : vp_in i n) : vp_in i (ln a) := hl ▸ h
/-- a World of the class -/
def IsW (v : Nat) : Prop := v = 2 ∨ v = 10 ∨ ∃ i, i < 8 ∧ v = 283 + 8 * i
theorem W_2 : IsW 2 := Or.inl rfl
theorem W_10 : IsW 10 := Or.inr (Or.inl rfl)
theorem W_at {i : Int32} (h : vp_in i 8) : IsW (283 + 8 * i.toNatClampNeg) := Or.inr (Or.inr ⟨_, vp_lt h, rfl⟩)
theorem W_x {Q : Nat → Prop} (h1 : Q 2) (h2 : Q 10) (h3 : ∀ i, i < 8 → Q (283 + 8 * i)) {v : Nat} (h : IsW v) : Q v := by
  rcases h with rfl | rfl | ⟨i, hi, rfl⟩
  · exact h1
  · exact h2
  · exact h3 i hi
theorem W_kd {v : Nat} (h : IsW v) : kd v = 3 := W_x (Q := fun v => kd v = 3) rfl rfl (by decide) h
theorem W_hi {v : Nat} (h : IsW v) : v < 347 := W_x (Q := fun v => v < 347) (by decide) (by decide) (by decide) h
theorem W_t {v : Nat} (h : IsW v) (j : Nat) (hj : 10 ≤ j) : tgt v j = v + (j - 9) := by
  have h1 : kd v = 3 := W_kd h
  have h2 : v ≠ 0 ∧ v ≠ 18 ∧ v ≠ 19 ∧ v ≠ 24 ∧ v ≠ 282 ∧ v ≠ 347 := W_x (Q := fun v => v ≠ 0 ∧ v ≠ 18 ∧ v ≠ 19 ∧ v ≠ 24 ∧ v ≠ 282 ∧ v ≠ 347) (by decide) (by decide) (by decide) h
  unfold tgt
  rw [if_neg h2.1, if_neg h2.2.1, if_neg h2.2.2.1, if_neg h2.2.2.2.1, if_neg h2.2.2.2.2.1, h1, if_neg (by decide), if_neg h2.2.2.2.2.2, if_pos rfl]
theorem W_k1 {v : Nat} (h : IsW v) : kd (v + 1) = 6 ∧ v + 1 < 347 := W_x (Q := fun v => kd (v + 1) = 6 ∧ v + 1 < 347) (by decide) (by decide) (by decide) h
theorem W_A1 {v : Nat} {b : Wy} (h : IsW v) : IsA (wC b) (v + 1) := ⟨(W_k1 h).1, Nat.zero_le _, (W_k1 h).2⟩
theorem W_L1 {v : Nat} (h : IsW v) : ln (v + 1) = 3 := W_x (Q := fun v => ln (v + 1) = 3) (by decide) (by decide) (by decide) h
theorem W_k2 {v : Nat} (h : IsW v) : kd (v + 2) = 6 ∧ v + 2 < 347 := W_x (Q := fun v => kd (v + 2) = 6 ∧ v + 2 < 347) (by decide) (by decide) (by decide) h
theorem W_A2 {v : Nat} {b : Wy} (h : IsW v) : IsA (wC b) (v + 2) := ⟨(W_k2 h).1, Nat.zero_le _, (W_k2 h).2⟩
theorem W_L2 {v : Nat} (h : IsW v) : ln (v + 2) = 3 := W_x (Q := fun v => ln (v + 2) = 3) (by decide) (by decide) (by decide) h
theorem W_k3 {v : Nat} (h : IsW v) : kd (v + 3) = 6 ∧ v + 3 < 347 := W_x (Q := fun v => kd (v + 3) = 6 ∧ v + 3 < 347) (by decide) (by decide) (by decide) h
theorem W_A3 {v : Nat} {b : Wy} (h : IsW v) : IsA (wC b) (v + 3) := ⟨(W_k3 h).1, Nat.zero_le _, (W_k3 h).2⟩
theorem W_L3 {v : Nat} (h : IsW v) : ln (v + 3) = 240 := W_x (Q := fun v => ln (v + 3) = 240) (by decide) (by decide) (by decide) h
theorem W_k4 {v : Nat} (h : IsW v) : kd (v + 4) = 6 ∧ v + 4 < 347 := W_x (Q := fun v => kd (v + 4) = 6 ∧ v + 4 < 347) (by decide) (by decide) (by decide) h
theorem W_A4 {v : Nat} {b : Wy} (h : IsW v) : IsA (wC b) (v + 4) := ⟨(W_k4 h).1, Nat.zero_le _, (W_k4 h).2⟩
theorem W_L4 {v : Nat} (h : IsW v) : ln (v + 4) = 240 := W_x (Q := fun v => ln (v + 4) = 240) (by decide) (by decide) (by decide) h
theorem W_k5 {v : Nat} (h : IsW v) : kd (v + 5) = 6 ∧ v + 5 < 347 := W_x (Q := fun v => kd (v + 5) = 6 ∧ v + 5 < 347) (by decide) (by decide) (by decide) h
theorem W_A5 {v : Nat} {b : Wy} (h : IsW v) : IsA (wC b) (v + 5) := ⟨(W_k5 h).1, Nat.zero_le _, (W_k5 h).2⟩
theorem W_L5 {v : Nat} (h : IsW v) : ln (v + 5) = 24 := W_x (Q := fun v => ln (v + 5) = 24) (by decide) (by decide) (by decide) h
theorem W_k6 {v : Nat} (h : IsW v) : kd (v + 6) = 6 ∧ v + 6 < 347 := W_x (Q := fun v => kd (v + 6) = 6 ∧ v + 6 < 347) (by decide) (by decide) (by decide) h
theorem W_A6 {v : Nat} {b : Wy} (h : IsW v) : IsA (wC b) (v + 6) := ⟨(W_k6 h).1, Nat.zero_le _, (W_k6 h).2⟩
theorem W_L6 {v : Nat} (h : IsW v) : ln (v + 6) = 12 := W_x (Q := fun v => ln (v + 6) = 12) (by decide) (by decide) (by decide) h
theorem W_k7 {v : Nat} (h : IsW v) : kd (v + 7) = 6 ∧ v + 7 < 347 := W_x (Q := fun v => kd (v + 7) = 6 ∧ v + 7 < 347) (by decide) (by decide) (by decide) h
theorem W_A7 {v : Nat} {b : Wy} (h : IsW v) : IsA (wC b) (v + 7) := ⟨(W_k7 h).1, Nat.zero_le _, (W_k7 h).2⟩
theorem W_L7 {v : Nat} (h : IsW v) : ln (v + 7) = 561 := W_x (Q := fun v => ln (v + 7) = 561) (by decide) (by decide) (by decide) h
/-- a Sailing -/
def IsS (v : Nat) : Prop := ∃ i, i < 3 ∧ v = 90 + 64 * i
theorem S_at {i : Int32} (h : vp_in i 3) : IsS (90 + 64 * i.toNatClampNeg) := ⟨_, vp_lt h, rfl⟩
theorem S_x {Q : Nat → Prop} (h3 : ∀ i, i < 3 → Q (90 + 64 * i)) {v : Nat} (h : IsS v) : Q v := by
  obtain ⟨i, hi, rfl⟩ := h
  exact h3 i hi
theorem S_kd {v : Nat} (h : IsS v) : kd v = 1 := S_x (Q := fun v => kd v = 1) (by decide) h
theorem S_hi {v : Nat} (h : IsS v) : v < 347 := S_x (Q := fun v => v < 347) (by decide) h
theorem S_t0 {v : Nat} (h : IsS v) : tgt v 0 = v + 1 := S_x (Q := fun v => tgt v 0 = v + 1) (by decide) h
theorem S_t1 {v : Nat} (h : IsS v) : tgt v 1 = v + 63 := S_x (Q := fun v => tgt v 1 = v + 63) (by decide) h
theorem S_ck {v : Nat} (h : IsS v) : kd (v + 63) = 6 ∧ v + 63 < 347 := S_x (Q := fun v => kd (v + 63) = 6 ∧ v + 63 < 347) (by decide) h
theorem S_cA {v : Nat} {b : Wy} (h : IsS v) : IsA (wC b) (v + 63) := ⟨(S_ck h).1, Nat.zero_le _, (S_ck h).2⟩
theorem S_cL {v : Nat} (h : IsS v) : ln (v + 63) = 60 := S_x (Q := fun v => ln (v + 63) = 60) (by decide) h
theorem S_mk {v : Nat} (h : IsS v) : kd (v + 1) = 6 + (2 + 1) := S_x (Q := fun v => kd (v + 1) = 6 + (2 + 1)) (by decide) h
theorem S_mh {v : Nat} (h : IsS v) : v + 1 < 347 := S_x (Q := fun v => v + 1 < 347) (by decide) h
theorem S_ml {v : Nat} (h : IsS v) : ln (v + 1) = 61 := S_x (Q := fun v => ln (v + 1) = 61) (by decide) h
theorem S_mt {v : Nat} (h : IsS v) (j : Nat) : tgt (v + 1) j = v + 2 + j := by
  obtain ⟨i, hi, rfl⟩ := h
  rcases (show i = 0 ∨ i = 1 ∨ i = 2 by omega) with rfl | rfl | rfl <;> exact (show _ + 1 + 1 + j = _ from by rfl)
theorem S_m0 : ∀ i, i < 3 → ∀ j, j < 61 → kd (90 + 64 * i + 2 + j) = 6 ∧ 90 + 64 * i + 2 + j < 347 ∧ ln (90 + 64 * i + 2 + j) = 240 := by decide +kernel
theorem S_m1 {v : Nat} (h : IsS v) {j : Nat} (hj : j < 61) : kd (v + 2 + j) = 6 ∧ v + 2 + j < 347 ∧ ln (v + 2 + j) = 240 := by
  obtain ⟨i, hi, rfl⟩ := h
  exact S_m0 i hi j hj
theorem S_mA {v : Nat} {b : Wy} {i : Int32} (h : IsS v) (hi : vp_in i 61) : IsA (wC b) (v + 2 + i.toNatClampNeg) := ⟨(S_m1 h (vp_lt hi)).1, Nat.zero_le _, (S_m1 h (vp_lt hi)).2.1⟩
theorem S_mL {v : Nat} {i : Int32} (h : IsS v) (hi : vp_in i 61) : ln (v + 2 + i.toNatClampNeg) = 240 := (S_m1 h (vp_lt hi)).2.2
theorem N_0 : ∀ j, j < 61 → kd (26 + j) = 6 ∧ 26 + j < 347 ∧ ln (26 + j) = 240 := by decide +kernel
theorem N_A {b : Wy} {i : Int32} (hi : vp_in i 61) : IsA (wC b) (26 + i.toNatClampNeg) := ⟨(N_0 _ (vp_lt hi)).1, Nat.zero_le _, (N_0 _ (vp_lt hi)).2.1⟩
theorem N_L {i : Int32} (hi : vp_in i 61) : ln (26 + i.toNatClampNeg) = 240 := (N_0 _ (vp_lt hi)).2.2
theorem U_0 : ∀ j, j < 2 → kd (88 + j) = 6 ∧ 88 + j < 347 ∧ ln (88 + j) = 240 := by decide +kernel
theorem U_A {b : Wy} {i : Int32} (hi : vp_in i 2) : IsA (wC b) (88 + i.toNatClampNeg) := ⟨(U_0 _ (vp_lt hi)).1, Nat.zero_le _, (U_0 _ (vp_lt hi)).2.1⟩
theorem U_L {i : Int32} (hi : vp_in i 2) : ln (88 + i.toNatClampNeg) = 240 := (U_0 _ (vp_lt hi)).2.2
theorem P_0 : ∀ j, j < 8 → kd (353 + j) = 6 ∧ 347 ≤ 353 + j ∧ 353 + j < 549 ∧ ln (353 + j) = 1098 := by decide +kernel
theorem P_A {b : Wy} {i : Int32} (hi : vp_in i 8) : IsA (wM b) (353 + i.toNatClampNeg) := ⟨(P_0 _ (vp_lt hi)).1, (P_0 _ (vp_lt hi)).2.1, (P_0 _ (vp_lt hi)).2.2.1⟩
theorem P_L {i : Int32} (hi : vp_in i 8) : ln (353 + i.toNatClampNeg) = 1098 := (P_0 _ (vp_lt hi)).2.2.2
/-- one of the reference's three grids -/
def IsG (v : Nat) : Prop := v = 363 ∨ v = 425 ∨ v = 487
theorem G_363 : IsG 363 := Or.inl rfl
theorem G_425 : IsG 425 := Or.inr (Or.inl rfl)
theorem G_487 : IsG 487 := Or.inr (Or.inr rfl)
theorem G_k {v : Nat} (h : IsG v) : kd v = 6 + (2 + 1) := by rcases h with rfl | rfl | rfl <;> rfl
theorem G_lo {v : Nat} (h : IsG v) : 347 ≤ v := by rcases h with rfl | rfl | rfl <;> decide
theorem G_hi {v : Nat} (h : IsG v) : v < 549 := by rcases h with rfl | rfl | rfl <;> decide
theorem G_l {v : Nat} (h : IsG v) : ln v = 61 := by rcases h with rfl | rfl | rfl <;> rfl
theorem G_t {v : Nat} (h : IsG v) (j : Nat) : tgt v j = v + 1 + j := by rcases h with rfl | rfl | rfl <;> rfl
theorem G_0 : ∀ v ∈ [363, 425, 487], ∀ j, j < 61 → kd (v + 1 + j) = 6 ∧ 347 ≤ v + 1 + j ∧ v + 1 + j < 549 ∧ ln (v + 1 + j) = 240 := by decide +kernel
theorem G_1 {v : Nat} (h : IsG v) {j : Nat} (hj : j < 61) : kd (v + 1 + j) = 6 ∧ 347 ≤ v + 1 + j ∧ v + 1 + j < 549 ∧ ln (v + 1 + j) = 240 := G_0 v (by rcases h with rfl | rfl | rfl <;> simp) j hj
theorem G_A {v : Nat} {b : Wy} {i : Int32} (h : IsG v) (hi : vp_in i 61) : IsA (wM b) (v + 1 + i.toNatClampNeg) := ⟨(G_1 h (vp_lt hi)).1, (G_1 h (vp_lt hi)).2.1, (G_1 h (vp_lt hi)).2.2.1⟩
theorem G_L {v : Nat} {i : Int32} (h : IsG v) (hi : vp_in i 61) : ln (v + 1 + i.toNatClampNeg) = 240 := (G_1 h (vp_lt hi)).2.2.2
theorem tsw_of (a : Int32) : -2147483648 ≤ a.toInt ∧ a.toInt < 2147483648 := ⟨Int32.le_toInt a, Int32.toInt_lt a⟩
section
variable {x : Cx} {w : Wx} {Q : State → Prop} {cc : ByteArray} {nL : Nat} {own : String} {ret : Option FieldType} {rm : Room} {pc : Nat} {lv : List (Nat × Value)} {st : List Value} {cs : Nat × Nat} {σ : Sg}
theorem J_top {a : Int32} (kk : ∀ y, y = a → J x w Q pc lv (.int y :: st) cs σ) : J x w Q pc lv (.int a :: st) cs σ := kk a rfl
theorem J_nS (kk : ∀ y, y = σ → J x w Q pc lv st cs y) : J x w Q pc lv st cs σ := kk σ rfl
theorem J_alenL (o : Ok x w cc nL own ret rm) {a n : Nat} (ha : IsA w a) (hl0 : ln a = n) (d : decode cc pc = .ok (.arraylength, 1)) (kk : J x w Q (pc + 1) lv (.int (Int32.ofNat n) :: st) cs σ) : J x w Q pc lv (.ref (wB w + a) :: st) cs σ :=
  J_alen o ha d (by rw [hl0]; exact kk)
theorem J_tswIn (o : Ok x w cc nL own ret rm) {dflt lo hi : Int} {offs : Array Int} {len : Nat} {a : Int32} {off : Int} (k : Int32) (ha : a = k) (tgt : Nat) (d : decode cc pc = .ok (.tableswitch dflt lo hi offs, len)) (h1 : ¬ k.toInt < lo) (h2 : ¬ hi < k.toInt) (ho : offs[(k.toInt - lo).toNat]? = some off) (ht : (pc : Int) + off = (tgt : Int)) (kk : J x w Q tgt lv st cs σ) : J x w Q pc lv (.int a :: st) cs σ := by
  subst ha
  exact J_tableIn o tgt d h1 h2 ho ht kk
theorem J_tswOut (o : Ok x w cc nL own ret rm) {dflt lo hi : Int} {offs : Array Int} {len : Nat} {a : Int32} (tgt : Nat) (d : decode cc pc = .ok (.tableswitch dflt lo hi offs, len)) (h : a.toInt < lo ∨ hi < a.toInt) (ht : (pc : Int) + dflt = (tgt : Int)) (kk : J x w Q tgt lv st cs σ) : J x w Q pc lv (.int a :: st) cs σ := J_tableOut o tgt d h ht kk
/-- a field of a nest mate -/
def FlN (own : String) (idx c j : Nat) (host : String) : Prop := c < 6 ∧ j < nf c ∧ u_lay (tR c) (tT c) j ∈ TBL ∧ (own, idx, (tT c j).1, (tT c j).2.1, (tT c j).2.2.1, host) ∈ nestF
theorem J_getIN (o : Ok x w cc nL own ret rm) {idx c j k : Nat} {host : String} (hf : FlN own idx c j host) (hk : kd k = c) (h1 : wLo w ≤ k) (h2 : k < wHi w) (hi0 : isR c j = false := by rfl) (d : decode cc pc = .ok (.getfield idx, 3)) (kk : J x w Q (pc + 3) lv (.int (σ k j) :: st) cs σ) : J x w Q pc lv (.ref (wB w + k) :: st) cs σ := by
  intro H locs ls hS hW hl
  obtain ⟨cell, q1, q2, q3, q4⟩ := (hW k h1 h2).obj hk hf.1
  obtain ⟨hSl, hfc, kC, hkC, hkind⟩ := o.2.2.2.2.2.2.2.2.2.1.1 c _ (t_cl hf.1)
  obtain ⟨cf, kf, fi, f, hi, hsl⟩ := hSl j hf.2.1
  have hv : fv (wB w) σ k j = .int (σ k j) := if_neg (by rw [hk, hi0]; decide)
  refine va_Wgetf o.1 o.2.1 o.2.2.2.1 ((o.2.2.2.2.2.2.2.2.2.2.2.1 _ hf.2.2.2).use rfl) hi (u_facts hfc hkC (f_lay o.2.2.2.2.1 hf.2.2.1) hi).1 q1 (by rw [q3]; exact fun h => by cases h) (v := .int (σ k j)) ?_ rfl rfl d (kk H locs ls hS hW hl)
  rw [hsl, ← hv]
  exact q4 j hf.2.1
end
end
section
/-! String constants: length and charAt, by the JDK's own code -/
theorem d_J0_length_8abf5_0 : decode cJ0_length_8abf5 0 = .ok (.aload_n 0, 1) := by decide +kernel
theorem d_J0_length_8abf5_1 : decode cJ0_length_8abf5 1 = .ok (.getfield 9, 3) := by decide +kernel
theorem d_J0_length_8abf5_4 : decode cJ0_length_8abf5 4 = .ok (.arraylength, 1) := by decide +kernel
theorem d_J0_length_8abf5_5 : decode cJ0_length_8abf5 5 = .ok (.aload_n 0, 1) := by decide +kernel
theorem d_J0_length_8abf5_6 : decode cJ0_length_8abf5 6 = .ok (.invokevirtual 335, 3) := by decide +kernel
theorem d_J0_length_8abf5_9 : decode cJ0_length_8abf5 9 = .ok (.ishr, 1) := by decide +kernel
theorem d_J0_length_8abf5_10 : decode cJ0_length_8abf5 10 = .ok (.ireturn, 1) := by decide +kernel
theorem d_J0_charAt_5068e_0 : decode cJ0_charAt_5068e 0 = .ok (.aload_n 0, 1) := by decide +kernel
theorem d_J0_charAt_5068e_1 : decode cJ0_charAt_5068e 1 = .ok (.invokevirtual 492, 3) := by decide +kernel
theorem d_J0_charAt_5068e_4 : decode cJ0_charAt_5068e 4 = .ok (.ifCond .eq 12, 3) := by decide +kernel
theorem d_J0_charAt_5068e_7 : decode cJ0_charAt_5068e 7 = .ok (.aload_n 0, 1) := by decide +kernel
theorem d_J0_charAt_5068e_8 : decode cJ0_charAt_5068e 8 = .ok (.getfield 9, 3) := by decide +kernel
theorem d_J0_charAt_5068e_11 : decode cJ0_charAt_5068e 11 = .ok (.iload_n 1, 1) := by decide +kernel
theorem d_J0_charAt_5068e_12 : decode cJ0_charAt_5068e 12 = .ok (.invokestatic 495, 3) := by decide +kernel
theorem d_J0_charAt_5068e_15 : decode cJ0_charAt_5068e 15 = .ok (.ireturn, 1) := by decide +kernel
theorem d_J0_coder_7d493_0 : decode cJ0_coder_7d493 0 = .ok (.getstatic 38, 3) := by decide +kernel
theorem d_J0_coder_7d493_3 : decode cJ0_coder_7d493 3 = .ok (.ifCond .eq 10, 3) := by decide +kernel
theorem d_J0_coder_7d493_6 : decode cJ0_coder_7d493 6 = .ok (.aload_n 0, 1) := by decide +kernel
theorem d_J0_coder_7d493_7 : decode cJ0_coder_7d493 7 = .ok (.getfield 15, 3) := by decide +kernel
theorem d_J0_coder_7d493_10 : decode cJ0_coder_7d493 10 = .ok (.goto 4, 3) := by decide +kernel
theorem d_J0_coder_7d493_13 : decode cJ0_coder_7d493 13 = .ok (.iconst 1, 1) := by decide +kernel
theorem d_J0_coder_7d493_14 : decode cJ0_coder_7d493 14 = .ok (.ireturn, 1) := by decide +kernel
theorem d_J0_isLatin1_aae02_0 : decode cJ0_isLatin1_aae02 0 = .ok (.getstatic 38, 3) := by decide +kernel
theorem d_J0_isLatin1_aae02_3 : decode cJ0_isLatin1_aae02 3 = .ok (.ifCond .eq 14, 3) := by decide +kernel
theorem d_J0_isLatin1_aae02_6 : decode cJ0_isLatin1_aae02 6 = .ok (.aload_n 0, 1) := by decide +kernel
theorem d_J0_isLatin1_aae02_7 : decode cJ0_isLatin1_aae02 7 = .ok (.getfield 15, 3) := by decide +kernel
theorem d_J0_isLatin1_aae02_10 : decode cJ0_isLatin1_aae02 10 = .ok (.ifCond .ne 7, 3) := by decide +kernel
theorem d_J0_isLatin1_aae02_13 : decode cJ0_isLatin1_aae02 13 = .ok (.iconst 1, 1) := by decide +kernel
theorem d_J0_isLatin1_aae02_14 : decode cJ0_isLatin1_aae02 14 = .ok (.goto 4, 3) := by decide +kernel
theorem d_J0_isLatin1_aae02_17 : decode cJ0_isLatin1_aae02 17 = .ok (.iconst 0, 1) := by decide +kernel
theorem d_J0_isLatin1_aae02_18 : decode cJ0_isLatin1_aae02 18 = .ok (.ireturn, 1) := by decide +kernel
theorem d_J0_checkIndex_df160_0 : decode cJ0_checkIndex_df160 0 = .ok (.iload_n 0, 1) := by decide +kernel
theorem d_J0_checkIndex_df160_1 : decode cJ0_checkIndex_df160 1 = .ok (.iload_n 1, 1) := by decide +kernel
theorem d_J0_checkIndex_df160_2 : decode cJ0_checkIndex_df160 2 = .ok (.getstatic 1053, 3) := by decide +kernel
theorem d_J0_checkIndex_df160_5 : decode cJ0_checkIndex_df160 5 = .ok (.invokestatic 1059, 3) := by decide +kernel
theorem d_J0_checkIndex_df160_8 : decode cJ0_checkIndex_df160 8 = .ok (.pop, 1) := by decide +kernel
theorem d_J0_checkIndex_df160_9 : decode cJ0_checkIndex_df160 9 = .ok (.return_, 1) := by decide +kernel
theorem d_J1_charAt_3b067_0 : decode cJ1_charAt_3b067 0 = .ok (.iload_n 1, 1) := by decide +kernel
theorem d_J1_charAt_3b067_1 : decode cJ1_charAt_3b067 1 = .ok (.aload_n 0, 1) := by decide +kernel
theorem d_J1_charAt_3b067_2 : decode cJ1_charAt_3b067 2 = .ok (.arraylength, 1) := by decide +kernel
theorem d_J1_charAt_3b067_3 : decode cJ1_charAt_3b067 3 = .ok (.invokestatic 9, 3) := by decide +kernel
theorem d_J1_charAt_3b067_6 : decode cJ1_charAt_3b067 6 = .ok (.aload_n 0, 1) := by decide +kernel
theorem d_J1_charAt_3b067_7 : decode cJ1_charAt_3b067 7 = .ok (.iload_n 1, 1) := by decide +kernel
theorem d_J1_charAt_3b067_8 : decode cJ1_charAt_3b067 8 = .ok (.baload, 1) := by decide +kernel
theorem d_J1_charAt_3b067_9 : decode cJ1_charAt_3b067 9 = .ok (.sipush 255, 3) := by decide +kernel
theorem d_J1_charAt_3b067_12 : decode cJ1_charAt_3b067 12 = .ok (.iand, 1) := by decide +kernel
theorem d_J1_charAt_3b067_13 : decode cJ1_charAt_3b067 13 = .ok (.i2c, 1) := by decide +kernel
theorem d_J1_charAt_3b067_14 : decode cJ1_charAt_3b067 14 = .ok (.ireturn, 1) := by decide +kernel
theorem d_J3_checkIndex_8e157_0 : decode cJ3_checkIndex_8e157 0 = .ok (.iload_n 0, 1) := by decide +kernel
theorem d_J3_checkIndex_8e157_1 : decode cJ3_checkIndex_8e157 1 = .ok (.ifCond .lt 8, 3) := by decide +kernel
theorem d_J3_checkIndex_8e157_4 : decode cJ3_checkIndex_8e157 4 = .ok (.iload_n 0, 1) := by decide +kernel
theorem d_J3_checkIndex_8e157_5 : decode cJ3_checkIndex_8e157 5 = .ok (.iload_n 1, 1) := by decide +kernel
theorem d_J3_checkIndex_8e157_6 : decode cJ3_checkIndex_8e157 6 = .ok (.if_icmp .lt 10, 3) := by decide +kernel
theorem d_J3_checkIndex_8e157_16 : decode cJ3_checkIndex_8e157 16 = .ok (.iload_n 0, 1) := by decide +kernel
theorem d_J3_checkIndex_8e157_17 : decode cJ3_checkIndex_8e157 17 = .ok (.ireturn, 1) := by decide +kernel
theorem ml_RJ0_335 : Cond.methodLink RJ0 335 yJ0_coder_7d493 ∈ TBL := tb_in 572 (by decide +kernel) rfl
theorem ml_RJ0_492 : Cond.methodLink RJ0 492 yJ0_isLatin1_aae02 ∈ TBL := tb_in 582 (by decide +kernel) rfl
theorem ml_RJ0_495 : Cond.methodLink RJ0 495 yJ1_charAt_3b067 ∈ TBL := tb_in 586 (by decide +kernel) rfl
theorem ml_RJ1_9 : Cond.methodLink RJ1 9 yJ0_checkIndex_df160 ∈ TBL := tb_in 589 (by decide +kernel) rfl
theorem ml_RJ0_1059 : Cond.methodLink RJ0 1059 yJ3_checkIndex_8e157 ∈ TBL := tb_in 594 (by decide +kernel) rfl
theorem mth_J0_length_8abf5 : Mth yJ0_length_8abf5 cJ0_length_8abf5 1 (some .int) 0 := ⟨tb_in 571 (by decide +kernel) rfl, tb_in 13 (by decide +kernel) rfl, ⟨by decide +kernel, by decide +kernel⟩, by decide +kernel⟩
theorem mth_J0_charAt_5068e : Mth yJ0_charAt_5068e cJ0_charAt_5068e 2 (some .char) 1 := ⟨tb_in 581 (by decide +kernel) rfl, tb_in 13 (by decide +kernel) rfl, ⟨by decide +kernel, by decide +kernel⟩, by decide +kernel⟩
theorem mth_J0_coder_7d493 : Mth yJ0_coder_7d493 cJ0_coder_7d493 1 (some .byte) 0 := ⟨tb_in 575 (by decide +kernel) rfl, tb_in 13 (by decide +kernel) rfl, ⟨by decide +kernel, by decide +kernel⟩, by decide +kernel⟩
theorem mth_J0_isLatin1_aae02 : Mth yJ0_isLatin1_aae02 cJ0_isLatin1_aae02 1 (some .boolean) 0 := ⟨tb_in 585 (by decide +kernel) rfl, tb_in 13 (by decide +kernel) rfl, ⟨by decide +kernel, by decide +kernel⟩, by decide +kernel⟩
theorem mth_J0_checkIndex_df160 : Mth yJ0_checkIndex_df160 cJ0_checkIndex_df160 2 none 2 := ⟨tb_in 591 (by decide +kernel) rfl, tb_in 13 (by decide +kernel) rfl, ⟨by decide +kernel, by decide +kernel⟩, by decide +kernel⟩
theorem mth_J1_charAt_3b067 : Mth yJ1_charAt_3b067 cJ1_charAt_3b067 2 (some .char) 2 := ⟨tb_in 588 (by decide +kernel) rfl, tb_in 14 (by decide +kernel) rfl, ⟨by decide +kernel, by decide +kernel⟩, by decide +kernel⟩
theorem mth_J3_checkIndex_8e157 : Mth yJ3_checkIndex_8e157 cJ3_checkIndex_8e157 3 (some .int) 3 := ⟨tb_in 596 (by decide +kernel) rfl, tb_in 15 (by decide +kernel) rfl, ⟨by decide +kernel, by decide +kernel⟩, by decide +kernel⟩
theorem iv_J0_length_8abf5 : Cond.instanceMethod yJ0_length_8abf5 ∈ TBL ∧ Cond.selects RJ0 yJ0_length_8abf5 yJ0_length_8abf5 ∈ TBL := ⟨tb_in 569 (by decide +kernel) rfl, tb_in 570 (by decide +kernel) rfl⟩
theorem iv_J0_charAt_5068e : Cond.instanceMethod yJ0_charAt_5068e ∈ TBL ∧ Cond.selects RJ0 yJ0_charAt_5068e yJ0_charAt_5068e ∈ TBL := ⟨tb_in 579 (by decide +kernel) rfl, tb_in 580 (by decide +kernel) rfl⟩
theorem iv_J0_coder_7d493 : Cond.instanceMethod yJ0_coder_7d493 ∈ TBL ∧ Cond.selects RJ0 yJ0_coder_7d493 yJ0_coder_7d493 ∈ TBL := ⟨tb_in 573 (by decide +kernel) rfl, tb_in 574 (by decide +kernel) rfl⟩
theorem iv_J0_isLatin1_aae02 : Cond.instanceMethod yJ0_isLatin1_aae02 ∈ TBL ∧ Cond.selects RJ0 yJ0_isLatin1_aae02 yJ0_isLatin1_aae02 ∈ TBL := ⟨tb_in 583 (by decide +kernel) rfl, tb_in 584 (by decide +kernel) rfl⟩
theorem st_J0_checkIndex_df160 : Cond.static yJ0_checkIndex_df160 ∈ TBL := tb_in 590 (by decide +kernel) rfl
theorem st_J1_charAt_3b067 : Cond.static yJ1_charAt_3b067 ∈ TBL := tb_in 587 (by decide +kernel) rfl
theorem st_J3_checkIndex_8e157 : Cond.static yJ3_checkIndex_8e157 ∈ TBL := tb_in 595 (by decide +kernel) rfl
theorem fk_RJ0_38 : Cond.fieldLink RJ0 38 "java/lang/String" "COMPACT_STRINGS" "Z" ∈ TBL := tb_in 576 (by decide +kernel) rfl
theorem fk_RJ0_9 : Cond.fieldLink RJ0 9 "java/lang/String" "value" "[B" ∈ TBL := tb_in 1346 (by decide +kernel) rfl
theorem fk_RJ0_15 : Cond.fieldLink RJ0 15 "java/lang/String" "coder" "B" ∈ TBL := tb_in 1347 (by decide +kernel) rfl
theorem fk_RJ0_1053 : Cond.fieldLink RJ0 1053 "jdk/internal/util/Preconditions" "SIOOBE_FORMATTER" "Ljava/util/function/BiFunction;" ∈ TBL := tb_in 592 (by decide +kernel) rfl
section
variable {x : Cx} {w : Wx} {Q : State → Prop} {cc : ByteArray} {nL : Nat} {own : String} {ret : Option FieldType} {rm : Room} {pc : Nat} {lv : List (Nat × Value)} {st : List Value} {cs : Nat × Nat} {σ : Sg}
theorem J_gets (o : Ok x w cc nL own ret rm) {idx : Nat} {C n d0 : String} {v : Value} (hZ : va_Z C n d0 v (Lo w) (xS x) (xS x).heap) (hl0 : Cond.fieldLink own idx C n d0 ∈ TBL) (d : decode cc pc = .ok (.getstatic idx, 3)) (kk : J x w Q (pc + 3) lv (v :: st) cs σ) : J x w Q pc lv st cs σ :=
  fun H locs ls hS hW hl => va_gets o.1 o.2.1 (hZ.narrow (fun _ h => Ar.lo o.2.2.2.2.2.2.2.2.1 h)) hS o.2.2.2.1 (o.2.2.2.2.1 _ hl0) (fun _ h => h) d (kk H locs ls hS hW hl)
theorem J_getS (o : Ok x w cc nL own ret rm) {idx q : Nat} {C n d0 : String} {v : Value} (hE : va_OF C n d0 v q (Lo w) (xS x) (xS x).heap) (hl0 : Cond.fieldLink own idx C n d0 ∈ TBL) (d : decode cc pc = .ok (.getfield idx, 3)) (kk : J x w Q (pc + 3) lv (v :: st) cs σ) : J x w Q pc lv (.ref q :: st) cs σ :=
  fun H locs ls hS hW hl => vk_getf o.1 o.2.1 (hE.narrow (fun _ h => Ar.lo o.2.2.2.2.2.2.2.2.1 h)) hS o.2.2.2.1 (o.2.2.2.2.1 _ hl0) (fun _ h => h) d (kk H locs ls hS hW hl)
theorem J_tb (o : Ok x w cc nL own ret rm) {t N : Nat} {f : Nat → Int32} {i : Int32} (hT : va_T .byte t N (fun j => .int (f j)) (Lo w) (xS x) (xS x).heap) (hin : vp_in i N) (d : decode cc pc = .ok (.baload, 1)) (kk : J x w Q (pc + 1) lv (.int (f i.toNatClampNeg) :: st) cs σ) : J x w Q pc lv (.int i :: .ref t :: st) cs σ :=
  fun H locs ls hS hW hl => va_tb o.1 o.2.1 (hT.narrow (fun _ h => Ar.lo o.2.2.2.2.2.2.2.2.1 h)) hS hin rfl d (kk H locs ls hS hW hl)
theorem J_tlen (o : Ok x w cc nL own ret rm) {t N : Nat} {f : Nat → Int32} (hT : va_T .byte t N (fun j => .int (f j)) (Lo w) (xS x) (xS x).heap) (d : decode cc pc = .ok (.arraylength, 1)) (kk : J x w Q (pc + 1) lv (.int (Int32.ofNat N) :: st) cs σ) : J x w Q pc lv (.ref t :: st) cs σ :=
  fun H locs ls hS hW hl => va_tlen o.1 o.2.1 (hT.narrow (fun _ h => Ar.lo o.2.2.2.2.2.2.2.2.1 h)) hS rfl d (kk H locs ls hS hW hl)
theorem J_i2c (o : Ok x w cc nL own ret rm) {a v : Int32} (hv : (a.toUInt32 % 65536).toInt32 = v) (d : decode cc pc = .ok (.i2c, 1)) (kk : J x w Q (pc + 1) lv (.int v :: st) cs σ) : J x w Q pc lv (.int a :: st) cs σ :=
  fun H locs ls hS hW hl => lv_i2c o.1 o.2.1 d (by first | exact hv | simpa using hv) (kk H locs ls hS hW hl)
theorem J_nret {ty : FieldType} (o : Ok x w cc nL own (some ty) rm) {P : Outcome → Sg → Prop} {v : Int32} (hn : narrow ty (.int v) = .int v) (d : decode cc pc = .ok (.ireturn, 1)) (h : P (.returned (some (.int v))) σ) : J x w (FinC x w P cs) pc lv [.int v] cs σ :=
  fun H locs ls hS hW hl => W.zret (hlocks := o.2.2.2.2.2.1) o.1 o.2.1 o.2.2.2.2.2.2.1 hn (J_post hS hW h) hS.2.2 d
theorem J_aloadV (o : Ok x w cc nL own ret rm) (k : Nat) {i : Fin 4} {v : Nat} (d : decode cc pc = .ok (.aload_n i, 1)) (hl0 : lv[k]? = some ((i : Nat), .ref v)) (kk : J x w Q (pc + 1) lv (.ref v :: st) cs σ) : J x w Q pc lv st cs σ := J_aload_n o k d hl0 kk
end
/-- the char at a place of a constant -/
def chS (k j : Nat) : Int32 := (sByt.getD k []).getD j 0
theorem chS_ok : ∀ k, k < nS → ∀ j, j < sLen.getD k 0 → ((chS k j &&& 255).toUInt32 % 65536).toInt32 = chS k j ∧ narrow .char (.int (chS k j)) = .int (chS k j) := by decide +kernel
theorem sLen_ok : ∀ k, k < nS → sLen.getD k 0 < 2 ^ 31 := by decide +kernel
abbrev rm_pre : Room := { frames := 0, cells := 0, slots := 0, locals := 0 }
abbrev rm_chk : Room := { frames := 1, cells := 0, slots := 0, locals := 22 }
abbrev rm_c1 : Room := { frames := 2, cells := 0, slots := 0, locals := 43 }
abbrev rm_lat : Room := { frames := 0, cells := 0, slots := 0, locals := 0 }
abbrev rm_len : Room := { frames := 1, cells := 0, slots := 0, locals := 20 }
abbrev rm_chr : Room := { frames := 3, cells := 0, slots := 0, locals := 64 }
theorem w_pre (l : Launch) (w : Wx) {i n : Int32} {v : Value} (hv : v = .null ∨ ∃ r, v = .ref r) {σ : Sg} {K : Int32 → Sg → Prop} (h0 : ¬ i < 0) (h1 : i < n) (h : K i σ) : Ct l w yJ3_checkIndex_8e157 cJ3_checkIndex_8e157 3 (some .int) rm_pre [.int i, .int n, v] σ (PI K) := by
  have hlen : (lg_sl [.int i, .int n, v]).length ≤ 3 := by rcases hv with rfl | ⟨r, rfl⟩ <;> exact Nat.le_of_ble_eq_true rfl
  refine Ct.of (own := RJ3) (by decide +kernel) rfl hlen (fun x hx o => ?_)
  have e : lv_args 0 [.int i, .int n, v] = [(0, .int i), (1, .int n), (2, v)] := by rcases hv with rfl | ⟨r, rfl⟩ <;> rfl
  rw [e]
  refine J_iload_n o 0 d_J3_checkIndex_8e157_0 rfl ?_
  refine J_if_lt o 9 d_J3_checkIndex_8e157_1 rfl (fun c => absurd c h0) (fun _ => ?_)
  refine J_iload_n o 0 d_J3_checkIndex_8e157_4 rfl ?_
  refine J_iload_n o 1 d_J3_checkIndex_8e157_5 rfl ?_
  refine J_icmp_lt o 16 d_J3_checkIndex_8e157_6 rfl (fun _ => ?_) (fun c => absurd h1 c)
  refine J_iload_n o 0 d_J3_checkIndex_8e157_16 rfl ?_
  exact J_iret o d_J3_checkIndex_8e157_17 ⟨_, rfl, h⟩
theorem w_chk (l : Launch) (w : Wx) {i n : Int32} {σ : Sg} {K : Sg → Prop} (h0 : ¬ i < 0) (h1 : i < n) (h : K σ) : Ct l w yJ0_checkIndex_df160 cJ0_checkIndex_df160 2 none rm_chk [.int i, .int n] σ (PV K) := by
  refine Ct.of (own := RJ0) (by decide +kernel) rfl (Nat.le_of_ble_eq_true rfl) (fun x hx o => ?_)
  subst hx
  show J x w (FinC x w (PV K) (0, 0)) 0 [(0, .int i), (1, .int n)] [] (0, 0) σ
  have hZ := o.2.2.2.2.2.2.2.2.2.2.2.2.2.2.2.2.2.2.1
  have key : ∀ v : Value, (v = .null ∨ ∃ r, v = .ref r) → va_Z "jdk/internal/util/Preconditions" "SIOOBE_FORMATTER" "Ljava/util/function/BiFunction;" v (Lo w) (xS x) (xS x).heap → J x w (FinC x w (PV K) (0, 0)) 0 [(0, .int i), (1, .int n)] [] (0, 0) σ := by
    intro v hv hz
    refine J_iload_n o 0 d_J0_checkIndex_df160_0 rfl ?_
    refine J_iload_n o 1 d_J0_checkIndex_df160_1 rfl ?_
    refine J_gets o hz fk_RJ0_1053 d_J0_checkIndex_df160_2 ?_
    refine J_callS o [.int i, .int n, v] mth_J3_checkIndex_8e157 st_J3_checkIndex_8e157 ml_RJ0_1059 ⟨Nat.le_of_ble_eq_true rfl, Nat.le_of_ble_eq_true rfl⟩ rfl rfl (Nat.le_of_ble_eq_true rfl) ⟨Nat.le_refl _, Nat.le_refl _⟩ d_J0_checkIndex_df160_5 (w_pre (xL x) w (K := fun _ s => K s) hv h0 h1 h) (aI fun r s h => ?_)
    refine J_pop o d_J0_checkIndex_df160_8 rfl ?_
    exact J_vret o d_J0_checkIndex_df160_9 ⟨rfl, h⟩
  rcases hZ with hz | ⟨t, hz⟩
  · exact key _ (Or.inl rfl) hz
  · exact key _ (Or.inr ⟨t, rfl⟩) hz
theorem w_c1 (l : Launch) (w : Wx) {k : Nat} {i : Int32} {σ : Sg} {K : Int32 → Sg → Prop} (hk : k < nS) (hi : vp_in i (sLen.getD k 0)) (h : K (chS k i.toNatClampNeg) σ) : Ct l w yJ1_charAt_3b067 cJ1_charAt_3b067 2 (some .char) rm_c1 [.ref (wV w k), .int i] σ (PI K) := by
  refine Ct.of (own := RJ1) (by decide +kernel) rfl (Nat.le_of_ble_eq_true rfl) (fun x hx o => ?_)
  subst hx
  show J x w (FinC x w (PI K) (0, 0)) 0 [(0, .ref (wV w k)), (1, .int i)] [] (0, 0) σ
  have hT := (o.2.2.2.2.2.2.2.2.2.2.2.2.2.2.2.1 k hk).2.2.2
  have h0 : ¬ i < 0 := fun c => hi (Or.inl c)
  obtain ⟨j, hj, rfl⟩ := vp_in_of hi (sLen_ok k hk)
  have h1 : nI j < Int32.ofNat (sLen.getD k 0) := nI_lt hj (sLen_ok k hk)
  refine J_iload_n o 1 d_J1_charAt_3b067_0 rfl ?_
  refine J_aload_n o 0 d_J1_charAt_3b067_1 rfl ?_
  refine J_tlen o hT d_J1_charAt_3b067_2 ?_
  refine J_callS o [.int (nI j), .int (Int32.ofNat (sLen.getD k 0))] mth_J0_checkIndex_df160 st_J0_checkIndex_df160 ml_RJ1_9 ⟨Nat.le_of_ble_eq_true rfl, Nat.le_of_ble_eq_true rfl⟩ rfl rfl (Nat.le_of_ble_eq_true rfl) ⟨Nat.le_refl _, Nat.le_refl _⟩ d_J1_charAt_3b067_3 (w_chk (xL x) w (K := fun s => s = σ) h0 h1 rfl) (aV fun s hs => ?_)
  subst hs
  refine J_aload_n o 0 d_J1_charAt_3b067_6 rfl ?_
  refine J_iload_n o 1 d_J1_charAt_3b067_7 rfl ?_
  refine J_tb o hT hi d_J1_charAt_3b067_8 ?_
  refine J_sipush (v := 255) o d_J1_charAt_3b067_9 (by decide) ?_
  refine J_iand o d_J1_charAt_3b067_12 ?_
  have e := chS_ok k hk (nI j).toNatClampNeg (vp_lt hi)
  refine J_i2c o e.1 d_J1_charAt_3b067_13 ?_
  exact J_nret o e.2 d_J1_charAt_3b067_14 ⟨_, rfl, h⟩
theorem w_lat (l : Launch) (w : Wx) {k : Nat} {σ : Sg} {K : Int32 → Sg → Prop} (hk : k < nS) (h : K 1 σ) : Ct l w yJ0_isLatin1_aae02 cJ0_isLatin1_aae02 1 (some .boolean) rm_lat [.ref (wK w k)] σ (PI K) := by
  refine Ct.of (own := RJ0) (by decide +kernel) rfl (Nat.le_of_ble_eq_true rfl) (fun x hx o => ?_)
  subst hx
  show J x w (FinC x w (PI K) (0, 0)) 0 [(0, .ref (wK w k))] [] (0, 0) σ
  have hS := o.2.2.2.2.2.2.2.2.2.2.2.2.2.2.2.1 k hk
  refine J_gets o o.2.2.2.2.2.2.2.2.2.2.2.2.2.2.2.2.2.1 fk_RJ0_38 d_J0_isLatin1_aae02_0 ?_
  refine J_if_eq o 17 d_J0_isLatin1_aae02_3 rfl (fun c => absurd c (by decide)) (fun _ => ?_)
  refine J_aload_n o 0 d_J0_isLatin1_aae02_6 rfl ?_
  refine J_getS o hS.2.1 fk_RJ0_15 d_J0_isLatin1_aae02_7 ?_
  refine J_if_ne o 17 d_J0_isLatin1_aae02_10 rfl (fun c => absurd rfl c) (fun _ => ?_)
  refine J_iconst (v := 1) o d_J0_isLatin1_aae02_13 (by decide) ?_
  refine J_goto o 18 d_J0_isLatin1_aae02_14 rfl ?_
  exact J_nret o rfl d_J0_isLatin1_aae02_18 ⟨_, rfl, h⟩
theorem w_cod (l : Launch) (w : Wx) {k : Nat} {σ : Sg} {K : Int32 → Sg → Prop} (hk : k < nS) (h : K 0 σ) : Ct l w yJ0_coder_7d493 cJ0_coder_7d493 1 (some .byte) rm_lat [.ref (wK w k)] σ (PI K) := by
  refine Ct.of (own := RJ0) (by decide +kernel) rfl (Nat.le_of_ble_eq_true rfl) (fun x hx o => ?_)
  subst hx
  show J x w (FinC x w (PI K) (0, 0)) 0 [(0, .ref (wK w k))] [] (0, 0) σ
  have hS := o.2.2.2.2.2.2.2.2.2.2.2.2.2.2.2.1 k hk
  refine J_gets o o.2.2.2.2.2.2.2.2.2.2.2.2.2.2.2.2.2.1 fk_RJ0_38 d_J0_coder_7d493_0 ?_
  refine J_if_eq o 13 d_J0_coder_7d493_3 rfl (fun c => absurd c (by decide)) (fun _ => ?_)
  refine J_aload_n o 0 d_J0_coder_7d493_6 rfl ?_
  refine J_getS o hS.2.1 fk_RJ0_15 d_J0_coder_7d493_7 ?_
  refine J_goto o 14 d_J0_coder_7d493_10 rfl ?_
  exact J_nret o rfl d_J0_coder_7d493_14 ⟨_, rfl, h⟩
theorem w_len (l : Launch) (w : Wx) {k : Nat} {σ : Sg} {K : Int32 → Sg → Prop} (hk : k < nS) (h : K (Int32.ofNat (sLen.getD k 0)) σ) : Ct l w yJ0_length_8abf5 cJ0_length_8abf5 1 (some .int) rm_len [.ref (wK w k)] σ (PI K) := by
  refine Ct.of (own := RJ0) (by decide +kernel) rfl (Nat.le_of_ble_eq_true rfl) (fun x hx o => ?_)
  subst hx
  show J x w (FinC x w (PI K) (0, 0)) 0 [(0, .ref (wK w k))] [] (0, 0) σ
  have hS := o.2.2.2.2.2.2.2.2.2.2.2.2.2.2.2.1 k hk
  refine J_aload_n o 0 d_J0_length_8abf5_0 rfl ?_
  refine J_getS o hS.2.2.1 fk_RJ0_9 d_J0_length_8abf5_1 ?_
  refine J_tlen o hS.2.2.2 d_J0_length_8abf5_4 ?_
  refine J_aload_n o 0 d_J0_length_8abf5_5 rfl ?_
  refine J_callT o [] hk mth_J0_coder_7d493 iv_J0_coder_7d493 ml_RJ0_335 ⟨Nat.le_of_ble_eq_true rfl, Nat.le_of_ble_eq_true rfl⟩ rfl rfl (Nat.le_of_ble_eq_true rfl) ⟨Nat.le_refl _, Nat.le_refl _⟩ d_J0_length_8abf5_6 (w_cod (xL x) w (K := fun r s => r = 0 ∧ s = σ) hk ⟨rfl, rfl⟩) (aI fun r s hs => ?_)
  obtain ⟨rfl, rfl⟩ := hs
  refine J_ishr o d_J0_length_8abf5_9 ?_
  rw [sb_shr0]
  exact J_iret o d_J0_length_8abf5_10 ⟨_, rfl, h⟩
theorem w_chr (l : Launch) (w : Wx) {k : Nat} {i : Int32} {σ : Sg} {K : Int32 → Sg → Prop} (hk : k < nS) (hi : vp_in i (sLen.getD k 0)) (h : K (chS k i.toNatClampNeg) σ) : Ct l w yJ0_charAt_5068e cJ0_charAt_5068e 2 (some .char) rm_chr [.ref (wK w k), .int i] σ (PI K) := by
  refine Ct.of (own := RJ0) (by decide +kernel) rfl (Nat.le_of_ble_eq_true rfl) (fun x hx o => ?_)
  subst hx
  show J x w (FinC x w (PI K) (0, 0)) 0 [(0, .ref (wK w k)), (1, .int i)] [] (0, 0) σ
  have hS := o.2.2.2.2.2.2.2.2.2.2.2.2.2.2.2.1 k hk
  have e := chS_ok k hk i.toNatClampNeg (vp_lt hi)
  refine J_aload_n o 0 d_J0_charAt_5068e_0 rfl ?_
  refine J_callT o [] hk mth_J0_isLatin1_aae02 iv_J0_isLatin1_aae02 ml_RJ0_492 ⟨Nat.le_of_ble_eq_true rfl, Nat.le_of_ble_eq_true rfl⟩ rfl rfl (Nat.le_of_ble_eq_true rfl) ⟨Nat.le_refl _, Nat.le_refl _⟩ d_J0_charAt_5068e_1 (w_lat (xL x) w (K := fun r s => r = 1 ∧ s = σ) hk ⟨rfl, rfl⟩) (aI fun r s hs => ?_)
  obtain ⟨rfl, rfl⟩ := hs
  refine J_if_eq o 16 d_J0_charAt_5068e_4 rfl (fun c => absurd c (by decide)) (fun _ => ?_)
  refine J_aload_n o 0 d_J0_charAt_5068e_7 rfl ?_
  refine J_getS o hS.2.2.1 fk_RJ0_9 d_J0_charAt_5068e_8 ?_
  refine J_iload_n o 1 d_J0_charAt_5068e_11 rfl ?_
  refine J_callS o [.ref (wV w k), .int i] mth_J1_charAt_3b067 st_J1_charAt_3b067 ml_RJ0_495 ⟨Nat.le_of_ble_eq_true rfl, Nat.le_of_ble_eq_true rfl⟩ rfl rfl (Nat.le_of_ble_eq_true rfl) ⟨Nat.le_refl _, Nat.le_refl _⟩ d_J0_charAt_5068e_12 (w_c1 (xL x) w (K := fun r t => r = chS k i.toNatClampNeg ∧ t = s) hk hi ⟨rfl, rfl⟩) (aI fun r t hs => ?_)
  obtain ⟨rfl, rfl⟩ := hs
  exact J_nret o e.2 d_J0_charAt_5068e_15 ⟨_, rfl, h⟩
section
variable {x : Cx} {w : Wx} {Q : State → Prop} {cc : ByteArray} {nL : Nat} {own : String} {ret : Option FieldType} {rm : Room} {pc : Nat} {lv : List (Nat × Value)} {st : List Value} {cs : Nat × Nat} {σ : Sg}
theorem J_strlen (o : Ok x w cc nL own ret rm) {k idx : Nat} (hk : k < nS) (hl0 : Cond.methodLink own idx yJ0_length_8abf5 ∈ TBL) (d : decode cc pc = .ok (.invokevirtual idx, 3)) (hR : rm_len.frames + 1 ≤ rm.frames ∧ 8 + (1 + 11) + rm_len.locals ≤ rm.locals) (hr8 : (st.map fun v => v.category).sum ≤ 8)
    (kk : J x w Q (pc + 3) lv (.int (Int32.ofNat (sLen.getD k 0)) :: st) cs σ) (hcs : cs.1 + 0 ≤ rm.cells ∧ cs.2 + 0 ≤ rm.slots := by exact ⟨Nat.zero_le _, Nat.zero_le _⟩) : J x w Q pc lv (.ref (wK w k) :: st) cs σ :=
  J_callT o [] hk mth_J0_length_8abf5 iv_J0_length_8abf5 hl0 hR rfl rfl hr8 hcs d (w_len (xL x) w (K := fun r s => r = Int32.ofNat (sLen.getD k 0) ∧ s = σ) hk ⟨rfl, rfl⟩) (aI fun r s hs => by
    obtain ⟨rfl, rfl⟩ := hs
    exact kk)
theorem J_charAt (o : Ok x w cc nL own ret rm) {k idx : Nat} {i : Int32} (hk : k < nS) (hi : vp_in i (sLen.getD k 0)) (hl0 : Cond.methodLink own idx yJ0_charAt_5068e ∈ TBL) (d : decode cc pc = .ok (.invokevirtual idx, 3)) (hR : rm_chr.frames + 1 ≤ rm.frames ∧ 8 + (2 + 11) + rm_chr.locals ≤ rm.locals) (hr8 : (st.map fun v => v.category).sum ≤ 8)
    (kk : J x w Q (pc + 3) lv (.int ((sByt.getD k []).getD i.toNatClampNeg 0) :: st) cs σ) (hcs : cs.1 + 0 ≤ rm.cells ∧ cs.2 + 0 ≤ rm.slots := by exact ⟨Nat.zero_le _, Nat.zero_le _⟩) : J x w Q pc lv (.int i :: .ref (wK w k) :: st) cs σ :=
  J_callT o [.int i] hk mth_J0_charAt_5068e iv_J0_charAt_5068e hl0 hR rfl rfl hr8 hcs d (w_chr (xL x) w (K := fun r s => r = chS k i.toNatClampNeg ∧ s = σ) hk hi ⟨rfl, rfl⟩) (aI fun r s hs => by
    obtain ⟨rfl, rfl⟩ := hs
    exact kk)
end
end
section
/-! the law's entry: what the tables and the start give -/
abbrev FW : List Cond := flatC (Cond.and given_1 narrow_1)
def offS : List Nat := [79, 97, 104, 112, 123, 128, 134, 139, 145, 150, 156, 161, 167, 172, 180, 191, 201, 209, 217, 245, 263, 271, 280, 292, 298, 304, 311, 317, 324, 330, 337, 343, 350, 359, 371, 380, 389]
def tmS (i : Nat) : Term := .string ((sRef.map (fun q => q.1)).getD i "") ((sRef.map (fun q => q.2.1)).getD i 0)
def blkS (i : Nat) : List Cond := [.exactly (tmS i) "java/lang/String", .eq (.field (tmS i) "java/lang/String" "coder" "B") (.int 0), .arrayOf (.field (tmS i) "java/lang/String" "value" "[B") .byte, .eq (.length (.field (tmS i) "java/lang/String" "value" "[B")) (.int (Int32.ofNat (sLen.getD i 0)))] ++
  (List.range (sLen.getD i 0)).map (fun j => .eq (.elem (.field (tmS i) "java/lang/String" "value" "[B") (.int (Int32.ofNat j))) (.int ((sByt.getD i []).getD j 0)))
set_option maxRecDepth 20000 in
theorem sw_all : ((List.range nS).all fun i => decide ((FW.drop (offS.getD i 0)).take (blkS i).length = blkS i)) = true := by decide +kernel
theorem sw_in {i : Nat} (hi : i < nS) : ∀ q ∈ blkS i, q ∈ FW := by
  have h := of_decide_eq_true (List.all_eq_true.mp sw_all i (List.mem_range.mpr hi))
  intro q hq
  rw [← h] at hq
  exact List.mem_of_mem_drop (List.mem_of_mem_take hq)
theorem fw_at {q : Cond} (i : Nat) (h : FW[i]? = some q) : q ∈ FW := List.mem_of_getElem? h
theorem vs_Sof {args : Array Value} {s : State} {A : Nat → Prop} (hf : ∀ q ∈ FW, q.before args s = true) (hA : ∀ a : Nat, a < s.heap.size → ¬ A a) :
    ∃ adK adV : Nat → Nat, vs_S nS sLen sByt adK adV A s s.heap ∧ ∀ i : Nat, i < nS → (tmS i).eval args s none [] s = some (.ref (adK i)) := by
  have h0 : ∀ i : Nat, ∃ q : Nat × Nat, i < nS → (tmS i).eval args s none [] s = some (.ref q.1) ∧ va_O "java/lang/String" q.1 A s s.heap ∧ va_OF "java/lang/String" "coder" "B" (.int 0) q.1 A s s.heap ∧ va_OF "java/lang/String" "value" "[B" (.ref q.2) q.1 A s s.heap ∧ va_T .byte q.2 (sLen.getD i 0) (fun j => .int ((sByt.getD i []).getD j 0)) A s s.heap := by
    intro i
    by_cases hi : i < nS
    · have hw : ∀ q ∈ blkS i, q.before args s = true := fun q hq => hf q (sw_in hi q hq)
      obtain ⟨a, c, cA, kA, q1, q2, q3, q4, q5, q6, -⟩ := Cond.exactly_spec (args := args) (first := s) (o := none) (s := s) (idx := []) (t := tmS i) (cls := "java/lang/String") (hw _ List.mem_cons_self)
      obtain ⟨t, ht, hT⟩ := va_Tof (ty := .byte) (tm := .field (tmS i) "java/lang/String" "value" "[B") (f := fun j => .int ((sByt.getD i []).getD j 0)) (A := A) (sLen_ok i hi) (hw _ (by simp [blkS])) (va_eqt (hw _ (by simp [blkS]))) (fun j hj => va_eqt (hw _ (List.mem_append_right _ (List.mem_map.mpr ⟨j, List.mem_range.mpr hj, rfl⟩)))) hA
      exact ⟨(a, t), fun _ => ⟨q1, ⟨cA, q3, q5, by rw [q6]; exact q2, hA a (Array.getElem?_eq_some_iff.mp q3).1⟩, vk_OFof q1 (va_eqt (hw _ (by simp [blkS]))) hA, vk_OFof q1 ht hA, hT⟩⟩
    · exact ⟨(0, 0), fun h => absurd h hi⟩
  obtain ⟨ad, had⟩ := Classical.axiomOfChoice h0
  exact ⟨fun i => (ad i).1, fun i => (ad i).2, fun i hi => (had i hi).2, fun i hi => (had i hi).1⟩
theorem e_cls {args : Array Value} {s : State} (hts : ∀ q ∈ lw_tbl, q.before args s = true) : ∃ D : va_G, va_K D vwCl [] s := by
  have h0 : ∀ c : Nat, ∃ q : ClassId × (Nat → Nat), c < 6 → u_Kn s (tR c) (tT c) (nf c) q.1 q.2 := by
    intro c
    by_cases hc : c < 6
    · have h : ∃ (cC : ClassId) (iS : Nat → Nat), u_Kn s (tR c) (tT c) (nf c) cC iS := lt6 (P := fun c => ∃ (cC : ClassId) (iS : Nat → Nat), u_Kn s (tR c) (tT c) (nf c) cC iS)
        (u_known (n := 10) hts (by decide +kernel) (hts (.instantiable (tR 0) 10) (by decide +kernel)))
        (u_known (n := 4) hts (by decide +kernel) (hts (.instantiable (tR 1) 4) (by decide +kernel)))
        (u_known (n := 15) hts (by decide +kernel) (hts (.instantiable (tR 2) 15) (by decide +kernel)))
        (u_known (n := 17) hts (by decide +kernel) (hts (.instantiable (tR 3) 17) (by decide +kernel)))
        (u_known (n := 13) hts (by decide +kernel) (hts (.instantiable (tR 4) 13) (by decide +kernel)))
        (u_known (n := 20) hts (by decide +kernel) (hts (.instantiable (tR 5) 20) (by decide +kernel))) hc
      obtain ⟨cC, iS, h⟩ := h
      exact ⟨(cC, iS), fun _ => h⟩
    · exact ⟨(0, fun _ => 0), fun h => absurd h hc⟩
  obtain ⟨ad, had⟩ := Classical.axiomOfChoice h0
  refine ⟨(fun c => (ad c).1, fun c => (ad c).2), fun c q hq => ?_, fun k q h => by simp at h⟩
  have hc : c < 6 := (List.getElem?_eq_some_iff.mp hq).1
  rw [t_cl hc] at hq
  cases hq
  exact had c hc
theorem e_arr {args : Array Value} {s : State} (hts : ∀ q ∈ lw_tbl, q.before args s = true) : ∃ t : Nat → ClassId, ∀ i, i < 4 → ArrOfT s (t i) (tyA i) ∧ va_RA s (t i) (tyA i) := by
  obtain ⟨c0, a1, k0, b1, b2, b3⟩ : ∃ (cA comp : ClassId) (kA : Class), s.vm.findClass "[I" = some cA ∧ s.vm.classes[cA]? = some kA ∧ kA.kind = .array comp .int := by
    obtain ⟨c, k, comp, h1, h2, h3⟩ := Cond.arrayClass_spec (hts (.arrayClass .int) (by decide +kernel))
    exact ⟨c, comp, k, h1, h2, h3⟩
  obtain ⟨p1, c1, k1, d1, -, d2, d3, d4⟩ := Cond.arrayOver_spec (n := "SeaMeeting$Sailing") (hts (.arrayOver (.object "SeaMeeting$Sailing")) (by decide +kernel))
  obtain ⟨p2, c2, k2, e1, -, e2, e3, e4⟩ := Cond.arrayOver_spec (n := "SeaMeeting$World") (hts (.arrayOver (.object "SeaMeeting$World")) (by decide +kernel))
  obtain ⟨p3, c3, k3, f1, -, f2, f3, f4⟩ := arrayOverA_spec (t := .int) (hts (.arrayOver (.array .int)) (by decide +kernel))
  refine ⟨fun i => if i = 0 then c0 else if i = 1 then c1 else if i = 2 then c2 else c3, fun i hi => ?_⟩
  rcases (show i = 0 ∨ i = 1 ∨ i = 2 ∨ i = 3 by omega) with rfl | rfl | rfl | rfl
  · exact ⟨fun N z => ⟨(fun k h => by cases h), k0, b2, _, b3⟩, b1⟩
  · exact ⟨fun N z => ⟨(fun k h => by cases h), k1, d2, _, d3⟩, k1, p1, d2, d3, d1, d4⟩
  · exact ⟨fun N z => ⟨(fun k h => by cases h), k2, e2, _, e3⟩, k2, p2, e2, e3, e1, e4⟩
  · exact ⟨fun N z => ⟨(fun k h => by cases h), k3, f2, _, f3⟩, f4⟩
theorem nests_ok : (∀ q ∈ nestF, Cond.fieldLinkNest q.1 q.2.1 q.2.2.1 q.2.2.2.1 q.2.2.2.2.1 q.2.2.2.2.2 ∈ lw_tbl) ∧ (∀ q ∈ nestM, Cond.methodLinkNest q.1 q.2.1 q.2.2.1 q.2.2.2 ∈ lw_tbl) ∧ (∀ q ∈ sRef, Cond.stringRef q.1 q.2.1 q.2.2.1 ∈ lw_tbl) ∧ (∀ q ∈ decL, Cond.declares q ∈ lw_tbl) ∧ (∀ q ∈ casL, Cond.castable q.1 q.2 ∈ lw_tbl) := by decide +kernel
theorem ncs_ok : ∀ q ∈ ncL, Cond.not (.castable q.1 q.2) ∈ FW := by decide +kernel
theorem sRef_ok : ∀ q ∈ sRef, q.2.2.2 < nS ∧ (sRef.map (fun q => q.1)).getD q.2.2.2 "" = q.1 ∧ (sRef.map (fun q => q.2.1)).getD q.2.2.2 0 = q.2.1 := by decide +kernel
theorem tabE : ∀ j, j < 9 → Cond.eq (.elem (.static "SeaMeeting" "EAST" "[I") (.int (Int32.ofNat j))) (.int (eastT j)) ∈ FW := by decide +kernel
theorem tabN : ∀ j, j < 9 → Cond.eq (.elem (.static "SeaMeeting" "NORTH" "[I") (.int (Int32.ofNat j))) (.int (northT j)) ∈ FW := by decide +kernel
set_option maxHeartbeats 1000000 in
/-- the entry's world -/
theorem ev_start {s : State} {b : Nat} (hts : ∀ q ∈ lw_tbl, q.before #[Value.ref b] s = true) (hgv : (Cond.and given_1 narrow_1).before #[Value.ref b] s = true) :
    ∃ g : va_G × (Nat → ClassId) × (Nat → Nat) × (Nat → Nat), Ev ((0, 347, s.heap.size), g) s s.heap ∧ (∀ i, i < 4 → va_RA s (g.2.1 i) (tyA i)) ∧ va_AO "SeaMeeting$Sailing" s ∧ va_AO "SeaMeeting$World" s ∧ (Cond.arrayOver (.array .int)).before #[] s = true := by
  have hf : ∀ q ∈ FW, q.before #[Value.ref b] s = true := flat_of_before _ hgv
  have hA : ∀ a : Nat, a < s.heap.size → ¬ (s.heap.size ≤ a) := fun a h => Nat.not_le.mpr h
  obtain ⟨D, hD⟩ := e_cls hts
  obtain ⟨t, ht⟩ := e_arr hts
  obtain ⟨adK, adV, hS, hSe⟩ := vs_Sof (A := fun q => s.heap.size ≤ q) hf hA
  obtain ⟨n1, n2, n3, n4, n5⟩ := nests_ok
  obtain ⟨tE, hE1, hE2⟩ := va_Tof (ty := .int) (tm := .static "SeaMeeting" "EAST" "[I") (N := 9) (f := fun j => .int (eastT j)) (A := fun q => s.heap.size ≤ q) (by decide) (hf _ (fw_at 5 (by decide +kernel))) (va_eqt (hf _ (fw_at 6 (by decide +kernel)))) (fun j hj => va_eqt (hf _ (tabE j hj))) hA
  obtain ⟨tN, hN1, hN2⟩ := va_Tof (ty := .int) (tm := .static "SeaMeeting" "NORTH" "[I") (N := 9) (f := fun j => .int (northT j)) (A := fun q => s.heap.size ≤ q) (by decide) (hf _ (fw_at 17 (by decide +kernel))) (va_eqt (hf _ (fw_at 18 (by decide +kernel)))) (fun j hj => va_eqt (hf _ (tabN j hj))) hA
  refine ⟨(D, t, adK, adV), ⟨Nat.le_refl _, hD, fun i hi => (ht i hi).1, fun q hq => va_Nw.of rfl (hts _ (n1 q hq)), fun q hq => va_Nw.of rfl (hts _ (n2 q hq)), ?_, ?_, hS, fun q hq => ?_, ?_, ?_, ?_, ?_, fun q hq => va_Nw.of rfl (hts _ (n4 q hq)), fun q hq => va_Nw.of rfl (hts _ (n5 q hq)), fun q hq => va_Nc.of (hf _ (ncs_ok q hq))⟩, fun i hi => (ht i hi).2, va_AO.of (hts _ (by decide +kernel)), va_AO.of (hts _ (by decide +kernel)), ?_⟩
  · exact ⟨tE, va_Zof (hts _ (by decide +kernel)) (hts (.initialized "SeaMeeting") (by decide +kernel)) hE1 hA, hE2⟩
  · exact ⟨tN, va_Zof (hts _ (by decide +kernel)) (hts (.initialized "SeaMeeting") (by decide +kernel)) hN1 hA, hN2⟩
  · obtain ⟨s1, s2, s3⟩ := sRef_ok q hq
    have h2 := hSe q.2.2.2 s1
    unfold tmS at h2
    rw [s2, s3] at h2
    exact vk_R.of (hts _ (n3 q hq)) h2
  · exact va_Zof (hts _ (by decide +kernel)) (hts (.initialized "java/lang/String") (by decide +kernel)) (va_eqt (hf _ (fw_at 30 (by decide +kernel)))) hA
  · exact va_Zqof (hts _ (by decide +kernel)) (hts (.initialized "jdk/internal/util/Preconditions") (by decide +kernel)) (hf _ (fw_at 31 (by decide +kernel))) hA
  · exact vx_Zqof (hts _ (by decide +kernel)) (hts (.initialized Bundle.tN) (by decide +kernel)) (hf _ (fw_at 28 (by decide +kernel))) hA
  · exact vx_Zqof (hts _ (by decide +kernel)) (hts (.initialized Bundle.tN) (by decide +kernel)) (hf _ (fw_at 29 (by decide +kernel))) hA
  · exact hts (.arrayOver (.array .int)) (by decide +kernel)
end
