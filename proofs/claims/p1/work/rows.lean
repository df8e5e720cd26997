section
-- ===== PART A: goes FIRST, ahead of the names: the tables' words, and 'selects' of the private methods out of them =====
/-- a private method of a class that the tables say can be made, by its rows of tables_1 -/
def lw_okq (q : MethodName × Nat) : Prop := (q.1.cls ≠ "java/lang/invoke/MethodHandle" ∧ q.1.cls ≠ "java/lang/invoke/VarHandle") ∧ Cond.instantiable q.1.cls q.2 ∈ tables_1 ∧ Cond.privateMethod q.1 ∈ tables_1 ∧ Cond.instanceMethod q.1 ∈ tables_1
theorem lw_p0 : lw_okq (⟨"MarshBells", "put", "(I)V"⟩, 17) := ⟨⟨by decide +kernel, by decide +kernel⟩, List.mem_of_getElem? (i := 27) (by decide +kernel), List.mem_of_getElem? (i := 542) (by decide +kernel), List.mem_of_getElem? (i := 543) (by decide +kernel)⟩
theorem lw_p1 : lw_okq (⟨"MarshBells", "isRuleOrNone", "(I)Z"⟩, 17) := ⟨⟨by decide +kernel, by decide +kernel⟩, List.mem_of_getElem? (i := 27) (by decide +kernel), List.mem_of_getElem? (i := 554) (by decide +kernel), List.mem_of_getElem? (i := 555) (by decide +kernel)⟩
theorem lw_p2 : lw_okq (⟨"MarshBells$Held", "keepAct", "(III)V"⟩, 12) := ⟨⟨by decide +kernel, by decide +kernel⟩, List.mem_of_getElem? (i := 231) (by decide +kernel), List.mem_of_getElem? (i := 558) (by decide +kernel), List.mem_of_getElem? (i := 559) (by decide +kernel)⟩
theorem lw_p3 : lw_okq (⟨"MarshBells$Held", "dropFirstAct", "()V"⟩, 12) := ⟨⟨by decide +kernel, by decide +kernel⟩, List.mem_of_getElem? (i := 231) (by decide +kernel), List.mem_of_getElem? (i := 562) (by decide +kernel), List.mem_of_getElem? (i := 563) (by decide +kernel)⟩
theorem lw_p4 : lw_okq (⟨"MarshBells$Held", "takeBackAct", "()I"⟩, 12) := ⟨⟨by decide +kernel, by decide +kernel⟩, List.mem_of_getElem? (i := 231) (by decide +kernel), List.mem_of_getElem? (i := 573) (by decide +kernel), List.mem_of_getElem? (i := 574) (by decide +kernel)⟩
theorem lw_p5 : lw_okq (⟨"MarshBells$Held", "put", "(III)V"⟩, 12) := ⟨⟨by decide +kernel, by decide +kernel⟩, List.mem_of_getElem? (i := 231) (by decide +kernel), List.mem_of_getElem? (i := 577) (by decide +kernel), List.mem_of_getElem? (i := 578) (by decide +kernel)⟩
theorem lw_p6 : lw_okq (⟨"MarshBells$Held", "row", "(I)[I"⟩, 12) := ⟨⟨by decide +kernel, by decide +kernel⟩, List.mem_of_getElem? (i := 231) (by decide +kernel), List.mem_of_getElem? (i := 581) (by decide +kernel), List.mem_of_getElem? (i := 582) (by decide +kernel)⟩
theorem lw_p7 : lw_okq (⟨"MarshBells$Trials", "withoutOne", "()I"⟩, 7) := ⟨⟨by decide +kernel, by decide +kernel⟩, List.mem_of_getElem? (i := 346) (by decide +kernel), List.mem_of_getElem? (i := 589) (by decide +kernel), List.mem_of_getElem? (i := 590) (by decide +kernel)⟩
theorem lw_p8 : lw_okq (⟨"MarshBells$Least", "clear", "()V"⟩, 3) := ⟨⟨by decide +kernel, by decide +kernel⟩, List.mem_of_getElem? (i := 352) (by decide +kernel), List.mem_of_getElem? (i := 593) (by decide +kernel), List.mem_of_getElem? (i := 594) (by decide +kernel)⟩
theorem lw_p9 : lw_okq (⟨"MarshBells$Trials", "lessonCount", "()I"⟩, 7) := ⟨⟨by decide +kernel, by decide +kernel⟩, List.mem_of_getElem? (i := 346) (by decide +kernel), List.mem_of_getElem? (i := 597) (by decide +kernel), List.mem_of_getElem? (i := 598) (by decide +kernel)⟩
theorem lw_p10 : lw_okq (⟨"MarshBells$Trials", "lostWithout", "(II)I"⟩, 7) := ⟨⟨by decide +kernel, by decide +kernel⟩, List.mem_of_getElem? (i := 346) (by decide +kernel), List.mem_of_getElem? (i := 601) (by decide +kernel), List.mem_of_getElem? (i := 602) (by decide +kernel)⟩
theorem lw_p11 : lw_okq (⟨"MarshBells$Day", "lostFrom", "(I)I"⟩, 10) := ⟨⟨by decide +kernel, by decide +kernel⟩, List.mem_of_getElem? (i := 293) (by decide +kernel), List.mem_of_getElem? (i := 605) (by decide +kernel), List.mem_of_getElem? (i := 606) (by decide +kernel)⟩
theorem lw_p12 : lw_okq (⟨"MarshBells$Day", "runOne", "(I)V"⟩, 10) := ⟨⟨by decide +kernel, by decide +kernel⟩, List.mem_of_getElem? (i := 293) (by decide +kernel), List.mem_of_getElem? (i := 609) (by decide +kernel), List.mem_of_getElem? (i := 610) (by decide +kernel)⟩
theorem lw_p13 : lw_okq (⟨"MarshBells$Day", "begin", "(ILMarshBells$Lesson;)V"⟩, 10) := ⟨⟨by decide +kernel, by decide +kernel⟩, List.mem_of_getElem? (i := 293) (by decide +kernel), List.mem_of_getElem? (i := 613) (by decide +kernel), List.mem_of_getElem? (i := 614) (by decide +kernel)⟩
theorem lw_p14 : lw_okq (⟨"MarshBells$Day", "way", "(II)I"⟩, 10) := ⟨⟨by decide +kernel, by decide +kernel⟩, List.mem_of_getElem? (i := 293) (by decide +kernel), List.mem_of_getElem? (i := 617) (by decide +kernel), List.mem_of_getElem? (i := 618) (by decide +kernel)⟩
theorem lw_p15 : lw_okq (⟨"MarshBells$Day", "isUpstairs", "(I)Z"⟩, 10) := ⟨⟨by decide +kernel, by decide +kernel⟩, List.mem_of_getElem? (i := 293) (by decide +kernel), List.mem_of_getElem? (i := 624) (by decide +kernel), List.mem_of_getElem? (i := 625) (by decide +kernel)⟩
def lw_privs_1 : List (MethodName × Nat) := [(⟨"MarshBells", "put", "(I)V"⟩, 17), (⟨"MarshBells", "isRuleOrNone", "(I)Z"⟩, 17), (⟨"MarshBells$Held", "keepAct", "(III)V"⟩, 12), (⟨"MarshBells$Held", "dropFirstAct", "()V"⟩, 12), (⟨"MarshBells$Held", "takeBackAct", "()I"⟩, 12), (⟨"MarshBells$Held", "put", "(III)V"⟩, 12), (⟨"MarshBells$Held", "row", "(I)[I"⟩, 12), (⟨"MarshBells$Trials", "withoutOne", "()I"⟩, 7), (⟨"MarshBells$Least", "clear", "()V"⟩, 3), (⟨"MarshBells$Trials", "lessonCount", "()I"⟩, 7), (⟨"MarshBells$Trials", "lostWithout", "(II)I"⟩, 7), (⟨"MarshBells$Day", "lostFrom", "(I)I"⟩, 10), (⟨"MarshBells$Day", "runOne", "(I)V"⟩, 10), (⟨"MarshBells$Day", "begin", "(ILMarshBells$Lesson;)V"⟩, 10), (⟨"MarshBells$Day", "way", "(II)I"⟩, 10), (⟨"MarshBells$Day", "isUpstairs", "(I)Z"⟩, 10)]
theorem lw_r1 : ∀ q ∈ lw_privs_1, lw_okq q := List.forall_mem_cons.mpr ⟨lw_p0, List.forall_mem_cons.mpr ⟨lw_p1, List.forall_mem_cons.mpr ⟨lw_p2, List.forall_mem_cons.mpr ⟨lw_p3, List.forall_mem_cons.mpr ⟨lw_p4, List.forall_mem_cons.mpr ⟨lw_p5, List.forall_mem_cons.mpr ⟨lw_p6, List.forall_mem_cons.mpr ⟨lw_p7, List.forall_mem_cons.mpr ⟨lw_p8, List.forall_mem_cons.mpr ⟨lw_p9, List.forall_mem_cons.mpr ⟨lw_p10, List.forall_mem_cons.mpr ⟨lw_p11, List.forall_mem_cons.mpr ⟨lw_p12, List.forall_mem_cons.mpr ⟨lw_p13, List.forall_mem_cons.mpr ⟨lw_p14, List.forall_mem_cons.mpr ⟨lw_p15, fun _ h => absurd h List.not_mem_nil⟩⟩⟩⟩⟩⟩⟩⟩⟩⟩⟩⟩⟩⟩⟩⟩
theorem lw_p16 : lw_okq (⟨"MarshBells$Day", "comingOf", "(III)I"⟩, 10) := ⟨⟨by decide +kernel, by decide +kernel⟩, List.mem_of_getElem? (i := 293) (by decide +kernel), List.mem_of_getElem? (i := 631) (by decide +kernel), List.mem_of_getElem? (i := 632) (by decide +kernel)⟩
theorem lw_p17 : lw_okq (⟨"MarshBells$Day", "firstComingAt", "(ILMarshBells$Lesson;)I"⟩, 10) := ⟨⟨by decide +kernel, by decide +kernel⟩, List.mem_of_getElem? (i := 293) (by decide +kernel), List.mem_of_getElem? (i := 635) (by decide +kernel), List.mem_of_getElem? (i := 636) (by decide +kernel)⟩
theorem lw_p18 : lw_okq (⟨"MarshBells$Day", "overrun", "(ILMarshBells$Lesson;)I"⟩, 10) := ⟨⟨by decide +kernel, by decide +kernel⟩, List.mem_of_getElem? (i := 293) (by decide +kernel), List.mem_of_getElem? (i := 639) (by decide +kernel), List.mem_of_getElem? (i := 640) (by decide +kernel)⟩
theorem lw_p19 : lw_okq (⟨"MarshBells$Rules", "value", "(I[I)I"⟩, 5) := ⟨⟨by decide +kernel, by decide +kernel⟩, List.mem_of_getElem? (i := 43) (by decide +kernel), List.mem_of_getElem? (i := 643) (by decide +kernel), List.mem_of_getElem? (i := 644) (by decide +kernel)⟩
theorem lw_p20 : lw_okq (⟨"MarshBells$Day", "lost", "()I"⟩, 10) := ⟨⟨by decide +kernel, by decide +kernel⟩, List.mem_of_getElem? (i := 293) (by decide +kernel), List.mem_of_getElem? (i := 653) (by decide +kernel), List.mem_of_getElem? (i := 654) (by decide +kernel)⟩
theorem lw_p21 : lw_okq (⟨"MarshBells$Day", "late", "(I)I"⟩, 10) := ⟨⟨by decide +kernel, by decide +kernel⟩, List.mem_of_getElem? (i := 293) (by decide +kernel), List.mem_of_getElem? (i := 657) (by decide +kernel), List.mem_of_getElem? (i := 658) (by decide +kernel)⟩
theorem lw_p22 : lw_okq (⟨"MarshBells$Least", "offer", "(II)V"⟩, 3) := ⟨⟨by decide +kernel, by decide +kernel⟩, List.mem_of_getElem? (i := 352) (by decide +kernel), List.mem_of_getElem? (i := 661) (by decide +kernel), List.mem_of_getElem? (i := 662) (by decide +kernel)⟩
theorem lw_p23 : lw_okq (⟨"MarshBells$Least", "told", "(I)I"⟩, 3) := ⟨⟨by decide +kernel, by decide +kernel⟩, List.mem_of_getElem? (i := 352) (by decide +kernel), List.mem_of_getElem? (i := 665) (by decide +kernel), List.mem_of_getElem? (i := 666) (by decide +kernel)⟩
theorem lw_p24 : lw_okq (⟨"MarshBells$Trials", "bestRule", "()I"⟩, 7) := ⟨⟨by decide +kernel, by decide +kernel⟩, List.mem_of_getElem? (i := 346) (by decide +kernel), List.mem_of_getElem? (i := 673) (by decide +kernel), List.mem_of_getElem? (i := 674) (by decide +kernel)⟩
theorem lw_p25 : lw_okq (⟨"MarshBells$Trials", "lostByRule", "(I)I"⟩, 7) := ⟨⟨by decide +kernel, by decide +kernel⟩, List.mem_of_getElem? (i := 346) (by decide +kernel), List.mem_of_getElem? (i := 677) (by decide +kernel), List.mem_of_getElem? (i := 678) (by decide +kernel)⟩
theorem lw_p26 : lw_okq (⟨"MarshBells$Stair", "gather", "()V"⟩, 6) := ⟨⟨by decide +kernel, by decide +kernel⟩, List.mem_of_getElem? (i := 460) (by decide +kernel), List.mem_of_getElem? (i := 689) (by decide +kernel), List.mem_of_getElem? (i := 690) (by decide +kernel)⟩
theorem lw_p27 : lw_okq (⟨"MarshBells$Day", "runFrom", "(I)V"⟩, 10) := ⟨⟨by decide +kernel, by decide +kernel⟩, List.mem_of_getElem? (i := 293) (by decide +kernel), List.mem_of_getElem? (i := 693) (by decide +kernel), List.mem_of_getElem? (i := 694) (by decide +kernel)⟩
theorem lw_p28 : lw_okq (⟨"MarshBells$Stair", "addWay", "(II)V"⟩, 6) := ⟨⟨by decide +kernel, by decide +kernel⟩, List.mem_of_getElem? (i := 460) (by decide +kernel), List.mem_of_getElem? (i := 698) (by decide +kernel), List.mem_of_getElem? (i := 699) (by decide +kernel)⟩
theorem lw_p29 : lw_okq (⟨"MarshBells$Stair", "crossings", "()I"⟩, 6) := ⟨⟨by decide +kernel, by decide +kernel⟩, List.mem_of_getElem? (i := 460) (by decide +kernel), List.mem_of_getElem? (i := 703) (by decide +kernel), List.mem_of_getElem? (i := 704) (by decide +kernel)⟩
theorem lw_p30 : lw_okq (⟨"MarshBells$Day", "idleMinutes", "()I"⟩, 10) := ⟨⟨by decide +kernel, by decide +kernel⟩, List.mem_of_getElem? (i := 293) (by decide +kernel), List.mem_of_getElem? (i := 714) (by decide +kernel), List.mem_of_getElem? (i := 715) (by decide +kernel)⟩
theorem lw_p31 : lw_okq (⟨"MarshBells$Held", "copy", "(LMarshBells$Held;)V"⟩, 12) := ⟨⟨by decide +kernel, by decide +kernel⟩, List.mem_of_getElem? (i := 231) (by decide +kernel), List.mem_of_getElem? (i := 722) (by decide +kernel), List.mem_of_getElem? (i := 723) (by decide +kernel)⟩
def lw_privs_2 : List (MethodName × Nat) := [(⟨"MarshBells$Day", "comingOf", "(III)I"⟩, 10), (⟨"MarshBells$Day", "firstComingAt", "(ILMarshBells$Lesson;)I"⟩, 10), (⟨"MarshBells$Day", "overrun", "(ILMarshBells$Lesson;)I"⟩, 10), (⟨"MarshBells$Rules", "value", "(I[I)I"⟩, 5), (⟨"MarshBells$Day", "lost", "()I"⟩, 10), (⟨"MarshBells$Day", "late", "(I)I"⟩, 10), (⟨"MarshBells$Least", "offer", "(II)V"⟩, 3), (⟨"MarshBells$Least", "told", "(I)I"⟩, 3), (⟨"MarshBells$Trials", "bestRule", "()I"⟩, 7), (⟨"MarshBells$Trials", "lostByRule", "(I)I"⟩, 7), (⟨"MarshBells$Stair", "gather", "()V"⟩, 6), (⟨"MarshBells$Day", "runFrom", "(I)V"⟩, 10), (⟨"MarshBells$Stair", "addWay", "(II)V"⟩, 6), (⟨"MarshBells$Stair", "crossings", "()I"⟩, 6), (⟨"MarshBells$Day", "idleMinutes", "()I"⟩, 10), (⟨"MarshBells$Held", "copy", "(LMarshBells$Held;)V"⟩, 12)]
theorem lw_r2 : ∀ q ∈ lw_privs_2, lw_okq q := List.forall_mem_cons.mpr ⟨lw_p16, List.forall_mem_cons.mpr ⟨lw_p17, List.forall_mem_cons.mpr ⟨lw_p18, List.forall_mem_cons.mpr ⟨lw_p19, List.forall_mem_cons.mpr ⟨lw_p20, List.forall_mem_cons.mpr ⟨lw_p21, List.forall_mem_cons.mpr ⟨lw_p22, List.forall_mem_cons.mpr ⟨lw_p23, List.forall_mem_cons.mpr ⟨lw_p24, List.forall_mem_cons.mpr ⟨lw_p25, List.forall_mem_cons.mpr ⟨lw_p26, List.forall_mem_cons.mpr ⟨lw_p27, List.forall_mem_cons.mpr ⟨lw_p28, List.forall_mem_cons.mpr ⟨lw_p29, List.forall_mem_cons.mpr ⟨lw_p30, List.forall_mem_cons.mpr ⟨lw_p31, fun _ h => absurd h List.not_mem_nil⟩⟩⟩⟩⟩⟩⟩⟩⟩⟩⟩⟩⟩⟩⟩⟩
theorem lw_p32 : lw_okq (⟨"java/lang/Throwable", "fillInStackTrace", "(I)Ljava/lang/Throwable;"⟩, 6) := ⟨⟨by decide +kernel, by decide +kernel⟩, List.mem_of_getElem? (i := 775) (by decide +kernel), List.mem_of_getElem? (i := 773) (by decide +kernel), List.mem_of_getElem? (i := 774) (by decide +kernel)⟩
theorem lw_p33 : lw_okq (⟨"MarshBells$Parser", "read", "(ILMarshBells$Plan;)V"⟩, 11) := ⟨⟨by decide +kernel, by decide +kernel⟩, List.mem_of_getElem? (i := 189) (by decide +kernel), List.mem_of_getElem? (i := 800) (by decide +kernel), List.mem_of_getElem? (i := 801) (by decide +kernel)⟩
theorem lw_p34 : lw_okq (⟨"MarshBells$Plan", "clear", "()V"⟩, 5) := ⟨⟨by decide +kernel, by decide +kernel⟩, List.mem_of_getElem? (i := 35) (by decide +kernel), List.mem_of_getElem? (i := 804) (by decide +kernel), List.mem_of_getElem? (i := 805) (by decide +kernel)⟩
theorem lw_p35 : lw_okq (⟨"MarshBells$Rules", "clear", "()V"⟩, 5) := ⟨⟨by decide +kernel, by decide +kernel⟩, List.mem_of_getElem? (i := 43) (by decide +kernel), List.mem_of_getElem? (i := 808) (by decide +kernel), List.mem_of_getElem? (i := 809) (by decide +kernel)⟩
theorem lw_p36 : lw_okq (⟨"MarshBells$Parser", "advance", "()V"⟩, 11) := ⟨⟨by decide +kernel, by decide +kernel⟩, List.mem_of_getElem? (i := 189) (by decide +kernel), List.mem_of_getElem? (i := 813) (by decide +kernel), List.mem_of_getElem? (i := 814) (by decide +kernel)⟩
theorem lw_p37 : lw_okq (⟨"MarshBells$Parser", "readLine", "()V"⟩, 11) := ⟨⟨by decide +kernel, by decide +kernel⟩, List.mem_of_getElem? (i := 189) (by decide +kernel), List.mem_of_getElem? (i := 820) (by decide +kernel), List.mem_of_getElem? (i := 821) (by decide +kernel)⟩
theorem lw_p38 : lw_okq (⟨"MarshBells$Parser", "isWord", "(Ljava/lang/String;)Z"⟩, 11) := ⟨⟨by decide +kernel, by decide +kernel⟩, List.mem_of_getElem? (i := 189) (by decide +kernel), List.mem_of_getElem? (i := 825) (by decide +kernel), List.mem_of_getElem? (i := 826) (by decide +kernel)⟩
theorem lw_p39 : lw_okq (⟨"MarshBells$Parser", "readLesson", "()V"⟩, 11) := ⟨⟨by decide +kernel, by decide +kernel⟩, List.mem_of_getElem? (i := 189) (by decide +kernel), List.mem_of_getElem? (i := 877) (by decide +kernel), List.mem_of_getElem? (i := 878) (by decide +kernel)⟩
theorem lw_p40 : lw_okq (⟨"MarshBells$Parser", "refuse", "(I)V"⟩, 11) := ⟨⟨by decide +kernel, by decide +kernel⟩, List.mem_of_getElem? (i := 189) (by decide +kernel), List.mem_of_getElem? (i := 881) (by decide +kernel), List.mem_of_getElem? (i := 882) (by decide +kernel)⟩
theorem lw_p41 : lw_okq (⟨"MarshBells$Lesson", "clear", "()V"⟩, 14) := ⟨⟨by decide +kernel, by decide +kernel⟩, List.mem_of_getElem? (i := 68) (by decide +kernel), List.mem_of_getElem? (i := 885) (by decide +kernel), List.mem_of_getElem? (i := 886) (by decide +kernel)⟩
theorem lw_p42 : lw_okq (⟨"MarshBells$Parser", "readNumber", "(II)I"⟩, 11) := ⟨⟨by decide +kernel, by decide +kernel⟩, List.mem_of_getElem? (i := 189) (by decide +kernel), List.mem_of_getElem? (i := 889) (by decide +kernel), List.mem_of_getElem? (i := 890) (by decide +kernel)⟩
theorem lw_p43 : lw_okq (⟨"MarshBells$Parser", "isTooLong", "()Z"⟩, 11) := ⟨⟨by decide +kernel, by decide +kernel⟩, List.mem_of_getElem? (i := 189) (by decide +kernel), List.mem_of_getElem? (i := 893) (by decide +kernel), List.mem_of_getElem? (i := 894) (by decide +kernel)⟩
theorem lw_p44 : lw_okq (⟨"MarshBells$Parser", "readWaited", "(LMarshBells$Lesson;)V"⟩, 11) := ⟨⟨by decide +kernel, by decide +kernel⟩, List.mem_of_getElem? (i := 189) (by decide +kernel), List.mem_of_getElem? (i := 898) (by decide +kernel), List.mem_of_getElem? (i := 899) (by decide +kernel)⟩
theorem lw_p45 : lw_okq (⟨"MarshBells$Lesson", "waitFor", "(I)V"⟩, 14) := ⟨⟨by decide +kernel, by decide +kernel⟩, List.mem_of_getElem? (i := 68) (by decide +kernel), List.mem_of_getElem? (i := 902) (by decide +kernel), List.mem_of_getElem? (i := 903) (by decide +kernel)⟩
theorem lw_p46 : lw_okq (⟨"MarshBells$Parser", "readOption", "(Ljava/lang/String;II)I"⟩, 11) := ⟨⟨by decide +kernel, by decide +kernel⟩, List.mem_of_getElem? (i := 189) (by decide +kernel), List.mem_of_getElem? (i := 908) (by decide +kernel), List.mem_of_getElem? (i := 909) (by decide +kernel)⟩
theorem lw_p47 : lw_okq (⟨"MarshBells$Parser", "readWalk", "()V"⟩, 11) := ⟨⟨by decide +kernel, by decide +kernel⟩, List.mem_of_getElem? (i := 189) (by decide +kernel), List.mem_of_getElem? (i := 915) (by decide +kernel), List.mem_of_getElem? (i := 916) (by decide +kernel)⟩
def lw_privs_3 : List (MethodName × Nat) := [(⟨"java/lang/Throwable", "fillInStackTrace", "(I)Ljava/lang/Throwable;"⟩, 6), (⟨"MarshBells$Parser", "read", "(ILMarshBells$Plan;)V"⟩, 11), (⟨"MarshBells$Plan", "clear", "()V"⟩, 5), (⟨"MarshBells$Rules", "clear", "()V"⟩, 5), (⟨"MarshBells$Parser", "advance", "()V"⟩, 11), (⟨"MarshBells$Parser", "readLine", "()V"⟩, 11), (⟨"MarshBells$Parser", "isWord", "(Ljava/lang/String;)Z"⟩, 11), (⟨"MarshBells$Parser", "readLesson", "()V"⟩, 11), (⟨"MarshBells$Parser", "refuse", "(I)V"⟩, 11), (⟨"MarshBells$Lesson", "clear", "()V"⟩, 14), (⟨"MarshBells$Parser", "readNumber", "(II)I"⟩, 11), (⟨"MarshBells$Parser", "isTooLong", "()Z"⟩, 11), (⟨"MarshBells$Parser", "readWaited", "(LMarshBells$Lesson;)V"⟩, 11), (⟨"MarshBells$Lesson", "waitFor", "(I)V"⟩, 14), (⟨"MarshBells$Parser", "readOption", "(Ljava/lang/String;II)I"⟩, 11), (⟨"MarshBells$Parser", "readWalk", "()V"⟩, 11)]
theorem lw_r3 : ∀ q ∈ lw_privs_3, lw_okq q := List.forall_mem_cons.mpr ⟨lw_p32, List.forall_mem_cons.mpr ⟨lw_p33, List.forall_mem_cons.mpr ⟨lw_p34, List.forall_mem_cons.mpr ⟨lw_p35, List.forall_mem_cons.mpr ⟨lw_p36, List.forall_mem_cons.mpr ⟨lw_p37, List.forall_mem_cons.mpr ⟨lw_p38, List.forall_mem_cons.mpr ⟨lw_p39, List.forall_mem_cons.mpr ⟨lw_p40, List.forall_mem_cons.mpr ⟨lw_p41, List.forall_mem_cons.mpr ⟨lw_p42, List.forall_mem_cons.mpr ⟨lw_p43, List.forall_mem_cons.mpr ⟨lw_p44, List.forall_mem_cons.mpr ⟨lw_p45, List.forall_mem_cons.mpr ⟨lw_p46, List.forall_mem_cons.mpr ⟨lw_p47, fun _ h => absurd h List.not_mem_nil⟩⟩⟩⟩⟩⟩⟩⟩⟩⟩⟩⟩⟩⟩⟩⟩
theorem lw_p48 : lw_okq (⟨"MarshBells$Parser", "readStair", "()V"⟩, 11) := ⟨⟨by decide +kernel, by decide +kernel⟩, List.mem_of_getElem? (i := 189) (by decide +kernel), List.mem_of_getElem? (i := 920) (by decide +kernel), List.mem_of_getElem? (i := 921) (by decide +kernel)⟩
theorem lw_p49 : lw_okq (⟨"MarshBells$Parser", "readRule", "()V"⟩, 11) := ⟨⟨by decide +kernel, by decide +kernel⟩, List.mem_of_getElem? (i := 189) (by decide +kernel), List.mem_of_getElem? (i := 925) (by decide +kernel), List.mem_of_getElem? (i := 926) (by decide +kernel)⟩
theorem lw_p50 : lw_okq (⟨"MarshBells$Parser", "readExpr", "(I)V"⟩, 11) := ⟨⟨by decide +kernel, by decide +kernel⟩, List.mem_of_getElem? (i := 189) (by decide +kernel), List.mem_of_getElem? (i := 929) (by decide +kernel), List.mem_of_getElem? (i := 930) (by decide +kernel)⟩
theorem lw_p51 : lw_okq (⟨"MarshBells$Parser", "isSignNow", "(C)Z"⟩, 11) := ⟨⟨by decide +kernel, by decide +kernel⟩, List.mem_of_getElem? (i := 189) (by decide +kernel), List.mem_of_getElem? (i := 933) (by decide +kernel), List.mem_of_getElem? (i := 934) (by decide +kernel)⟩
theorem lw_p52 : lw_okq (⟨"MarshBells$Parser", "readAnd", "(I)V"⟩, 11) := ⟨⟨by decide +kernel, by decide +kernel⟩, List.mem_of_getElem? (i := 189) (by decide +kernel), List.mem_of_getElem? (i := 937) (by decide +kernel), List.mem_of_getElem? (i := 938) (by decide +kernel)⟩
theorem lw_p53 : lw_okq (⟨"MarshBells$Parser", "readNot", "(I)V"⟩, 11) := ⟨⟨by decide +kernel, by decide +kernel⟩, List.mem_of_getElem? (i := 189) (by decide +kernel), List.mem_of_getElem? (i := 941) (by decide +kernel), List.mem_of_getElem? (i := 942) (by decide +kernel)⟩
theorem lw_p54 : lw_okq (⟨"MarshBells$Parser", "readTest", "(I)V"⟩, 11) := ⟨⟨by decide +kernel, by decide +kernel⟩, List.mem_of_getElem? (i := 189) (by decide +kernel), List.mem_of_getElem? (i := 946) (by decide +kernel), List.mem_of_getElem? (i := 947) (by decide +kernel)⟩
theorem lw_p55 : lw_okq (⟨"MarshBells$Parser", "readSum", "(I)V"⟩, 11) := ⟨⟨by decide +kernel, by decide +kernel⟩, List.mem_of_getElem? (i := 189) (by decide +kernel), List.mem_of_getElem? (i := 950) (by decide +kernel), List.mem_of_getElem? (i := 951) (by decide +kernel)⟩
theorem lw_p56 : lw_okq (⟨"MarshBells$Parser", "readProduct", "(I)V"⟩, 11) := ⟨⟨by decide +kernel, by decide +kernel⟩, List.mem_of_getElem? (i := 189) (by decide +kernel), List.mem_of_getElem? (i := 954) (by decide +kernel), List.mem_of_getElem? (i := 955) (by decide +kernel)⟩
theorem lw_p57 : lw_okq (⟨"MarshBells$Parser", "readPart", "(I)V"⟩, 11) := ⟨⟨by decide +kernel, by decide +kernel⟩, List.mem_of_getElem? (i := 189) (by decide +kernel), List.mem_of_getElem? (i := 958) (by decide +kernel), List.mem_of_getElem? (i := 959) (by decide +kernel)⟩
theorem lw_p58 : lw_okq (⟨"MarshBells$Rules", "add", "(I)V"⟩, 5) := ⟨⟨by decide +kernel, by decide +kernel⟩, List.mem_of_getElem? (i := 43) (by decide +kernel), List.mem_of_getElem? (i := 962) (by decide +kernel), List.mem_of_getElem? (i := 963) (by decide +kernel)⟩
theorem lw_p59 : lw_okq (⟨"MarshBells$Parser", "valueNow", "()I"⟩, 11) := ⟨⟨by decide +kernel, by decide +kernel⟩, List.mem_of_getElem? (i := 189) (by decide +kernel), List.mem_of_getElem? (i := 966) (by decide +kernel), List.mem_of_getElem? (i := 967) (by decide +kernel)⟩
theorem lw_p60 : lw_okq (⟨"MarshBells$Parser", "readSign", "(C)V"⟩, 11) := ⟨⟨by decide +kernel, by decide +kernel⟩, List.mem_of_getElem? (i := 189) (by decide +kernel), List.mem_of_getElem? (i := 975) (by decide +kernel), List.mem_of_getElem? (i := 976) (by decide +kernel)⟩
theorem lw_p61 : lw_okq (⟨"MarshBells$Rules", "close", "()V"⟩, 5) := ⟨⟨by decide +kernel, by decide +kernel⟩, List.mem_of_getElem? (i := 43) (by decide +kernel), List.mem_of_getElem? (i := 981) (by decide +kernel), List.mem_of_getElem? (i := 982) (by decide +kernel)⟩
theorem lw_p62 : lw_okq (⟨"MarshBells$Held", "start", "(LMarshBells$Plan;)V"⟩, 12) := ⟨⟨by decide +kernel, by decide +kernel⟩, List.mem_of_getElem? (i := 231) (by decide +kernel), List.mem_of_getElem? (i := 985) (by decide +kernel), List.mem_of_getElem? (i := 986) (by decide +kernel)⟩
theorem lw_p63 : lw_okq (⟨"MarshBells", "countOfDay", "(I)I"⟩, 17) := ⟨⟨by decide +kernel, by decide +kernel⟩, List.mem_of_getElem? (i := 27) (by decide +kernel), List.mem_of_getElem? (i := 1016) (by decide +kernel), List.mem_of_getElem? (i := 1017) (by decide +kernel)⟩
def lw_privs_4 : List (MethodName × Nat) := [(⟨"MarshBells$Parser", "readStair", "()V"⟩, 11), (⟨"MarshBells$Parser", "readRule", "()V"⟩, 11), (⟨"MarshBells$Parser", "readExpr", "(I)V"⟩, 11), (⟨"MarshBells$Parser", "isSignNow", "(C)Z"⟩, 11), (⟨"MarshBells$Parser", "readAnd", "(I)V"⟩, 11), (⟨"MarshBells$Parser", "readNot", "(I)V"⟩, 11), (⟨"MarshBells$Parser", "readTest", "(I)V"⟩, 11), (⟨"MarshBells$Parser", "readSum", "(I)V"⟩, 11), (⟨"MarshBells$Parser", "readProduct", "(I)V"⟩, 11), (⟨"MarshBells$Parser", "readPart", "(I)V"⟩, 11), (⟨"MarshBells$Rules", "add", "(I)V"⟩, 5), (⟨"MarshBells$Parser", "valueNow", "()I"⟩, 11), (⟨"MarshBells$Parser", "readSign", "(C)V"⟩, 11), (⟨"MarshBells$Rules", "close", "()V"⟩, 5), (⟨"MarshBells$Held", "start", "(LMarshBells$Plan;)V"⟩, 12), (⟨"MarshBells", "countOfDay", "(I)I"⟩, 17)]
theorem lw_r4 : ∀ q ∈ lw_privs_4, lw_okq q := List.forall_mem_cons.mpr ⟨lw_p48, List.forall_mem_cons.mpr ⟨lw_p49, List.forall_mem_cons.mpr ⟨lw_p50, List.forall_mem_cons.mpr ⟨lw_p51, List.forall_mem_cons.mpr ⟨lw_p52, List.forall_mem_cons.mpr ⟨lw_p53, List.forall_mem_cons.mpr ⟨lw_p54, List.forall_mem_cons.mpr ⟨lw_p55, List.forall_mem_cons.mpr ⟨lw_p56, List.forall_mem_cons.mpr ⟨lw_p57, List.forall_mem_cons.mpr ⟨lw_p58, List.forall_mem_cons.mpr ⟨lw_p59, List.forall_mem_cons.mpr ⟨lw_p60, List.forall_mem_cons.mpr ⟨lw_p61, List.forall_mem_cons.mpr ⟨lw_p62, List.forall_mem_cons.mpr ⟨lw_p63, fun _ h => absurd h List.not_mem_nil⟩⟩⟩⟩⟩⟩⟩⟩⟩⟩⟩⟩⟩⟩⟩⟩
theorem lw_p64 : lw_okq (⟨"MarshBells$Day", "lateOnes", "()I"⟩, 10) := ⟨⟨by decide +kernel, by decide +kernel⟩, List.mem_of_getElem? (i := 293) (by decide +kernel), List.mem_of_getElem? (i := 1021) (by decide +kernel), List.mem_of_getElem? (i := 1022) (by decide +kernel)⟩
theorem lw_p65 : lw_okq (⟨"MarshBells$Day", "latest", "()I"⟩, 10) := ⟨⟨by decide +kernel, by decide +kernel⟩, List.mem_of_getElem? (i := 293) (by decide +kernel), List.mem_of_getElem? (i := 1025) (by decide +kernel), List.mem_of_getElem? (i := 1026) (by decide +kernel)⟩
theorem lw_p66 : lw_okq (⟨"MarshBells$Day", "begunLater", "()I"⟩, 10) := ⟨⟨by decide +kernel, by decide +kernel⟩, List.mem_of_getElem? (i := 293) (by decide +kernel), List.mem_of_getElem? (i := 1029) (by decide +kernel), List.mem_of_getElem? (i := 1030) (by decide +kernel)⟩
theorem lw_p67 : lw_okq (⟨"MarshBells", "needLesson", "(I)V"⟩, 17) := ⟨⟨by decide +kernel, by decide +kernel⟩, List.mem_of_getElem? (i := 27) (by decide +kernel), List.mem_of_getElem? (i := 1040) (by decide +kernel), List.mem_of_getElem? (i := 1041) (by decide +kernel)⟩
theorem lw_p68 : lw_okq (⟨"MarshBells$Held", "value", "(II)I"⟩, 12) := ⟨⟨by decide +kernel, by decide +kernel⟩, List.mem_of_getElem? (i := 231) (by decide +kernel), List.mem_of_getElem? (i := 1069) (by decide +kernel), List.mem_of_getElem? (i := 1070) (by decide +kernel)⟩
theorem lw_p69 : lw_okq (⟨"MarshBells$Trials", "keepEnds", "()V"⟩, 7) := ⟨⟨by decide +kernel, by decide +kernel⟩, List.mem_of_getElem? (i := 346) (by decide +kernel), List.mem_of_getElem? (i := 1084) (by decide +kernel), List.mem_of_getElem? (i := 1085) (by decide +kernel)⟩
theorem lw_p70 : lw_okq (⟨"MarshBells$Trials", "runMore", "(II)V"⟩, 7) := ⟨⟨by decide +kernel, by decide +kernel⟩, List.mem_of_getElem? (i := 346) (by decide +kernel), List.mem_of_getElem? (i := 1090) (by decide +kernel), List.mem_of_getElem? (i := 1091) (by decide +kernel)⟩
theorem lw_p71 : lw_okq (⟨"MarshBells$Trials", "laterBits", "()I"⟩, 7) := ⟨⟨by decide +kernel, by decide +kernel⟩, List.mem_of_getElem? (i := 346) (by decide +kernel), List.mem_of_getElem? (i := 1094) (by decide +kernel), List.mem_of_getElem? (i := 1095) (by decide +kernel)⟩
theorem lw_p72 : lw_okq (⟨"MarshBells$Trials", "laterMinutes", "()I"⟩, 7) := ⟨⟨by decide +kernel, by decide +kernel⟩, List.mem_of_getElem? (i := 346) (by decide +kernel), List.mem_of_getElem? (i := 1098) (by decide +kernel), List.mem_of_getElem? (i := 1099) (by decide +kernel)⟩
theorem lw_p73 : lw_okq (⟨"MarshBells$Trials", "leastThatReaches", "(II)I"⟩, 7) := ⟨⟨by decide +kernel, by decide +kernel⟩, List.mem_of_getElem? (i := 346) (by decide +kernel), List.mem_of_getElem? (i := 1109) (by decide +kernel), List.mem_of_getElem? (i := 1110) (by decide +kernel)⟩
theorem lw_p74 : lw_okq (⟨"MarshBells$Trials", "mostThatDies", "(I)I"⟩, 7) := ⟨⟨by decide +kernel, by decide +kernel⟩, List.mem_of_getElem? (i := 346) (by decide +kernel), List.mem_of_getElem? (i := 1122) (by decide +kernel), List.mem_of_getElem? (i := 1123) (by decide +kernel)⟩
theorem lw_p75 : lw_okq (⟨"MarshBells$GapSearch", "fewest", "(III)I"⟩, 9) := ⟨⟨by decide +kernel, by decide +kernel⟩, List.mem_of_getElem? (i := 395) (by decide +kernel), List.mem_of_getElem? (i := 1140) (by decide +kernel), List.mem_of_getElem? (i := 1141) (by decide +kernel)⟩
theorem lw_p76 : lw_okq (⟨"MarshBells$GapSearch", "findAsked", "()V"⟩, 9) := ⟨⟨by decide +kernel, by decide +kernel⟩, List.mem_of_getElem? (i := 395) (by decide +kernel), List.mem_of_getElem? (i := 1144) (by decide +kernel), List.mem_of_getElem? (i := 1145) (by decide +kernel)⟩
theorem lw_p77 : lw_okq (⟨"MarshBells$GapSearch", "tryFrom", "(II)V"⟩, 9) := ⟨⟨by decide +kernel, by decide +kernel⟩, List.mem_of_getElem? (i := 395) (by decide +kernel), List.mem_of_getElem? (i := 1152) (by decide +kernel), List.mem_of_getElem? (i := 1153) (by decide +kernel)⟩
theorem lw_p78 : lw_okq (⟨"MarshBells$GapSearch", "takeIfOnTime", "(I)V"⟩, 9) := ⟨⟨by decide +kernel, by decide +kernel⟩, List.mem_of_getElem? (i := 395) (by decide +kernel), List.mem_of_getElem? (i := 1156) (by decide +kernel), List.mem_of_getElem? (i := 1157) (by decide +kernel)⟩
theorem lw_p79 : lw_okq (⟨"MarshBells$GapSearch", "tryGapsOf", "(II)V"⟩, 9) := ⟨⟨by decide +kernel, by decide +kernel⟩, List.mem_of_getElem? (i := 395) (by decide +kernel), List.mem_of_getElem? (i := 1162) (by decide +kernel), List.mem_of_getElem? (i := 1163) (by decide +kernel)⟩
def lw_privs_5 : List (MethodName × Nat) := [(⟨"MarshBells$Day", "lateOnes", "()I"⟩, 10), (⟨"MarshBells$Day", "latest", "()I"⟩, 10), (⟨"MarshBells$Day", "begunLater", "()I"⟩, 10), (⟨"MarshBells", "needLesson", "(I)V"⟩, 17), (⟨"MarshBells$Held", "value", "(II)I"⟩, 12), (⟨"MarshBells$Trials", "keepEnds", "()V"⟩, 7), (⟨"MarshBells$Trials", "runMore", "(II)V"⟩, 7), (⟨"MarshBells$Trials", "laterBits", "()I"⟩, 7), (⟨"MarshBells$Trials", "laterMinutes", "()I"⟩, 7), (⟨"MarshBells$Trials", "leastThatReaches", "(II)I"⟩, 7), (⟨"MarshBells$Trials", "mostThatDies", "(I)I"⟩, 7), (⟨"MarshBells$GapSearch", "fewest", "(III)I"⟩, 9), (⟨"MarshBells$GapSearch", "findAsked", "()V"⟩, 9), (⟨"MarshBells$GapSearch", "tryFrom", "(II)V"⟩, 9), (⟨"MarshBells$GapSearch", "takeIfOnTime", "(I)V"⟩, 9), (⟨"MarshBells$GapSearch", "tryGapsOf", "(II)V"⟩, 9)]
theorem lw_r5 : ∀ q ∈ lw_privs_5, lw_okq q := List.forall_mem_cons.mpr ⟨lw_p64, List.forall_mem_cons.mpr ⟨lw_p65, List.forall_mem_cons.mpr ⟨lw_p66, List.forall_mem_cons.mpr ⟨lw_p67, List.forall_mem_cons.mpr ⟨lw_p68, List.forall_mem_cons.mpr ⟨lw_p69, List.forall_mem_cons.mpr ⟨lw_p70, List.forall_mem_cons.mpr ⟨lw_p71, List.forall_mem_cons.mpr ⟨lw_p72, List.forall_mem_cons.mpr ⟨lw_p73, List.forall_mem_cons.mpr ⟨lw_p74, List.forall_mem_cons.mpr ⟨lw_p75, List.forall_mem_cons.mpr ⟨lw_p76, List.forall_mem_cons.mpr ⟨lw_p77, List.forall_mem_cons.mpr ⟨lw_p78, List.forall_mem_cons.mpr ⟨lw_p79, fun _ h => absurd h List.not_mem_nil⟩⟩⟩⟩⟩⟩⟩⟩⟩⟩⟩⟩⟩⟩⟩⟩
theorem lw_p80 : lw_okq (⟨"MarshBells$Chances", "ofLate", "(II)V"⟩, 7) := ⟨⟨by decide +kernel, by decide +kernel⟩, List.mem_of_getElem? (i := 430) (by decide +kernel), List.mem_of_getElem? (i := 1181) (by decide +kernel), List.mem_of_getElem? (i := 1182) (by decide +kernel)⟩
theorem lw_p81 : lw_okq (⟨"MarshBells$Chances", "findUnsure", "(I)V"⟩, 7) := ⟨⟨by decide +kernel, by decide +kernel⟩, List.mem_of_getElem? (i := 430) (by decide +kernel), List.mem_of_getElem? (i := 1185) (by decide +kernel), List.mem_of_getElem? (i := 1186) (by decide +kernel)⟩
theorem lw_p82 : lw_okq (⟨"MarshBells$Chances", "runWith", "(II)V"⟩, 7) := ⟨⟨by decide +kernel, by decide +kernel⟩, List.mem_of_getElem? (i := 430) (by decide +kernel), List.mem_of_getElem? (i := 1190) (by decide +kernel), List.mem_of_getElem? (i := 1191) (by decide +kernel)⟩
theorem lw_p83 : lw_okq (⟨"MarshBells$Chances", "weight", "(I)J"⟩, 7) := ⟨⟨by decide +kernel, by decide +kernel⟩, List.mem_of_getElem? (i := 430) (by decide +kernel), List.mem_of_getElem? (i := 1196) (by decide +kernel), List.mem_of_getElem? (i := 1197) (by decide +kernel)⟩
theorem lw_p84 : lw_okq (⟨"MarshBells$Chances", "reduce", "()V"⟩, 7) := ⟨⟨by decide +kernel, by decide +kernel⟩, List.mem_of_getElem? (i := 430) (by decide +kernel), List.mem_of_getElem? (i := 1200) (by decide +kernel), List.mem_of_getElem? (i := 1201) (by decide +kernel)⟩
theorem lw_p85 : lw_okq (⟨"MarshBells$Chances", "meanLate", "(I)V"⟩, 7) := ⟨⟨by decide +kernel, by decide +kernel⟩, List.mem_of_getElem? (i := 430) (by decide +kernel), List.mem_of_getElem? (i := 1211) (by decide +kernel), List.mem_of_getElem? (i := 1212) (by decide +kernel)⟩
theorem lw_p86 : lw_okq (⟨"MarshBells$Trials", "swapped", "(I)I"⟩, 7) := ⟨⟨by decide +kernel, by decide +kernel⟩, List.mem_of_getElem? (i := 346) (by decide +kernel), List.mem_of_getElem? (i := 1222) (by decide +kernel), List.mem_of_getElem? (i := 1223) (by decide +kernel)⟩
theorem lw_p87 : lw_okq (⟨"MarshBells$Trials", "exchange", "(II)V"⟩, 7) := ⟨⟨by decide +kernel, by decide +kernel⟩, List.mem_of_getElem? (i := 346) (by decide +kernel), List.mem_of_getElem? (i := 1226) (by decide +kernel), List.mem_of_getElem? (i := 1227) (by decide +kernel)⟩
theorem lw_p88 : lw_okq (⟨"MarshBells$Trials", "leastBy", "(III)I"⟩, 7) := ⟨⟨by decide +kernel, by decide +kernel⟩, List.mem_of_getElem? (i := 346) (by decide +kernel), List.mem_of_getElem? (i := 1237) (by decide +kernel), List.mem_of_getElem? (i := 1238) (by decide +kernel)⟩
theorem lw_p89 : lw_okq (⟨"MarshBells$Trials", "worthOfBell", "(I)I"⟩, 7) := ⟨⟨by decide +kernel, by decide +kernel⟩, List.mem_of_getElem? (i := 346) (by decide +kernel), List.mem_of_getElem? (i := 1266) (by decide +kernel), List.mem_of_getElem? (i := 1267) (by decide +kernel)⟩
theorem lw_p90 : lw_okq (⟨"MarshBells$Held", "keepSeen", "(II)V"⟩, 12) := ⟨⟨by decide +kernel, by decide +kernel⟩, List.mem_of_getElem? (i := 231) (by decide +kernel), List.mem_of_getElem? (i := 1278) (by decide +kernel), List.mem_of_getElem? (i := 1279) (by decide +kernel)⟩
theorem lw_p91 : lw_okq (⟨"MarshBells$Trials", "findBeginners", "()V"⟩, 7) := ⟨⟨by decide +kernel, by decide +kernel⟩, List.mem_of_getElem? (i := 346) (by decide +kernel), List.mem_of_getElem? (i := 1289) (by decide +kernel), List.mem_of_getElem? (i := 1290) (by decide +kernel)⟩
theorem lw_p92 : lw_okq (⟨"MarshBells$Trials", "isAsSeen", "()Z"⟩, 7) := ⟨⟨by decide +kernel, by decide +kernel⟩, List.mem_of_getElem? (i := 346) (by decide +kernel), List.mem_of_getElem? (i := 1293) (by decide +kernel), List.mem_of_getElem? (i := 1294) (by decide +kernel)⟩
theorem lw_p93 : lw_okq (⟨"MarshBells$Trials", "addBeginner", "(II)V"⟩, 7) := ⟨⟨by decide +kernel, by decide +kernel⟩, List.mem_of_getElem? (i := 346) (by decide +kernel), List.mem_of_getElem? (i := 1298) (by decide +kernel), List.mem_of_getElem? (i := 1299) (by decide +kernel)⟩
theorem lw_p94 : lw_okq (⟨"MarshBells$Chances", "ofTerm", "(IIII)I"⟩, 7) := ⟨⟨by decide +kernel, by decide +kernel⟩, List.mem_of_getElem? (i := 430) (by decide +kernel), List.mem_of_getElem? (i := 1309) (by decide +kernel), List.mem_of_getElem? (i := 1310) (by decide +kernel)⟩
theorem lw_p95 : lw_okq (⟨"MarshBells$Chances", "drawRunning", "()I"⟩, 7) := ⟨⟨by decide +kernel, by decide +kernel⟩, List.mem_of_getElem? (i := 430) (by decide +kernel), List.mem_of_getElem? (i := 1313) (by decide +kernel), List.mem_of_getElem? (i := 1314) (by decide +kernel)⟩
def lw_privs_6 : List (MethodName × Nat) := [(⟨"MarshBells$Chances", "ofLate", "(II)V"⟩, 7), (⟨"MarshBells$Chances", "findUnsure", "(I)V"⟩, 7), (⟨"MarshBells$Chances", "runWith", "(II)V"⟩, 7), (⟨"MarshBells$Chances", "weight", "(I)J"⟩, 7), (⟨"MarshBells$Chances", "reduce", "()V"⟩, 7), (⟨"MarshBells$Chances", "meanLate", "(I)V"⟩, 7), (⟨"MarshBells$Trials", "swapped", "(I)I"⟩, 7), (⟨"MarshBells$Trials", "exchange", "(II)V"⟩, 7), (⟨"MarshBells$Trials", "leastBy", "(III)I"⟩, 7), (⟨"MarshBells$Trials", "worthOfBell", "(I)I"⟩, 7), (⟨"MarshBells$Held", "keepSeen", "(II)V"⟩, 12), (⟨"MarshBells$Trials", "findBeginners", "()V"⟩, 7), (⟨"MarshBells$Trials", "isAsSeen", "()Z"⟩, 7), (⟨"MarshBells$Trials", "addBeginner", "(II)V"⟩, 7), (⟨"MarshBells$Chances", "ofTerm", "(IIII)I"⟩, 7), (⟨"MarshBells$Chances", "drawRunning", "()I"⟩, 7)]
theorem lw_r6 : ∀ q ∈ lw_privs_6, lw_okq q := List.forall_mem_cons.mpr ⟨lw_p80, List.forall_mem_cons.mpr ⟨lw_p81, List.forall_mem_cons.mpr ⟨lw_p82, List.forall_mem_cons.mpr ⟨lw_p83, List.forall_mem_cons.mpr ⟨lw_p84, List.forall_mem_cons.mpr ⟨lw_p85, List.forall_mem_cons.mpr ⟨lw_p86, List.forall_mem_cons.mpr ⟨lw_p87, List.forall_mem_cons.mpr ⟨lw_p88, List.forall_mem_cons.mpr ⟨lw_p89, List.forall_mem_cons.mpr ⟨lw_p90, List.forall_mem_cons.mpr ⟨lw_p91, List.forall_mem_cons.mpr ⟨lw_p92, List.forall_mem_cons.mpr ⟨lw_p93, List.forall_mem_cons.mpr ⟨lw_p94, List.forall_mem_cons.mpr ⟨lw_p95, fun _ h => absurd h List.not_mem_nil⟩⟩⟩⟩⟩⟩⟩⟩⟩⟩⟩⟩⟩⟩⟩⟩
theorem lw_p96 : lw_okq (⟨"MarshBells$Chances", "drawOfTen", "()I"⟩, 7) := ⟨⟨by decide +kernel, by decide +kernel⟩, List.mem_of_getElem? (i := 430) (by decide +kernel), List.mem_of_getElem? (i := 1317) (by decide +kernel), List.mem_of_getElem? (i := 1318) (by decide +kernel)⟩
theorem lw_p97 : lw_okq (⟨"MarshBells$Day", "onBits", "(I)I"⟩, 10) := ⟨⟨by decide +kernel, by decide +kernel⟩, List.mem_of_getElem? (i := 293) (by decide +kernel), List.mem_of_getElem? (i := 1331) (by decide +kernel), List.mem_of_getElem? (i := 1332) (by decide +kernel)⟩
theorem lw_p98 : lw_okq (⟨"MarshBells$Stair", "peopleIn", "(I)I"⟩, 6) := ⟨⟨by decide +kernel, by decide +kernel⟩, List.mem_of_getElem? (i := 460) (by decide +kernel), List.mem_of_getElem? (i := 1335) (by decide +kernel), List.mem_of_getElem? (i := 1336) (by decide +kernel)⟩
theorem lw_p99 : lw_okq (⟨"MarshBells$Day", "clashes", "()I"⟩, 10) := ⟨⟨by decide +kernel, by decide +kernel⟩, List.mem_of_getElem? (i := 293) (by decide +kernel), List.mem_of_getElem? (i := 1346) (by decide +kernel), List.mem_of_getElem? (i := 1347) (by decide +kernel)⟩
theorem lw_p100 : lw_okq (⟨"MarshBells$Day", "clashOf", "(II)I"⟩, 10) := ⟨⟨by decide +kernel, by decide +kernel⟩, List.mem_of_getElem? (i := 293) (by decide +kernel), List.mem_of_getElem? (i := 1350) (by decide +kernel), List.mem_of_getElem? (i := 1351) (by decide +kernel)⟩
theorem lw_p101 : lw_okq (⟨"MarshBells$Day", "firstClash", "()I"⟩, 10) := ⟨⟨by decide +kernel, by decide +kernel⟩, List.mem_of_getElem? (i := 293) (by decide +kernel), List.mem_of_getElem? (i := 1354) (by decide +kernel), List.mem_of_getElem? (i := 1355) (by decide +kernel)⟩
theorem lw_p102 : lw_okq (⟨"MarshBells$Stair", "busiestMinute", "()I"⟩, 6) := ⟨⟨by decide +kernel, by decide +kernel⟩, List.mem_of_getElem? (i := 460) (by decide +kernel), List.mem_of_getElem? (i := 1365) (by decide +kernel), List.mem_of_getElem? (i := 1366) (by decide +kernel)⟩
theorem lw_p103 : lw_okq (⟨"MarshBells$Trials", "leastByShift", "(II)I"⟩, 7) := ⟨⟨by decide +kernel, by decide +kernel⟩, List.mem_of_getElem? (i := 346) (by decide +kernel), List.mem_of_getElem? (i := 1377) (by decide +kernel), List.mem_of_getElem? (i := 1378) (by decide +kernel)⟩
theorem lw_p104 : lw_okq (⟨"MarshBells$Trials", "harmDone", "(II)I"⟩, 7) := ⟨⟨by decide +kernel, by decide +kernel⟩, List.mem_of_getElem? (i := 346) (by decide +kernel), List.mem_of_getElem? (i := 1388) (by decide +kernel), List.mem_of_getElem? (i := 1389) (by decide +kernel)⟩
theorem lw_p105 : lw_okq (⟨"MarshBells$Trials", "withoutTwo", "(I)I"⟩, 7) := ⟨⟨by decide +kernel, by decide +kernel⟩, List.mem_of_getElem? (i := 346) (by decide +kernel), List.mem_of_getElem? (i := 1399) (by decide +kernel), List.mem_of_getElem? (i := 1400) (by decide +kernel)⟩
theorem lw_p106 : lw_okq (⟨"MarshBells$Trials", "leastByPause", "(II)I"⟩, 7) := ⟨⟨by decide +kernel, by decide +kernel⟩, List.mem_of_getElem? (i := 346) (by decide +kernel), List.mem_of_getElem? (i := 1410) (by decide +kernel), List.mem_of_getElem? (i := 1411) (by decide +kernel)⟩
theorem lw_p107 : lw_okq (⟨"MarshBells$Trials", "addGapFrom", "(II)V"⟩, 7) := ⟨⟨by decide +kernel, by decide +kernel⟩, List.mem_of_getElem? (i := 346) (by decide +kernel), List.mem_of_getElem? (i := 1414) (by decide +kernel), List.mem_of_getElem? (i := 1415) (by decide +kernel)⟩
theorem lw_p108 : lw_okq (⟨"MarshBellsModel", "lays", "(I)V"⟩, 88) := ⟨⟨by decide +kernel, by decide +kernel⟩, List.mem_of_getElem? (i := 1418) (by decide +kernel), List.mem_of_getElem? (i := 1697) (by decide +kernel), List.mem_of_getElem? (i := 1698) (by decide +kernel)⟩
theorem lw_p109 : lw_okq (⟨"MarshBellsModel", "right", "(ZI)Z"⟩, 88) := ⟨⟨by decide +kernel, by decide +kernel⟩, List.mem_of_getElem? (i := 1418) (by decide +kernel), List.mem_of_getElem? (i := 1705) (by decide +kernel), List.mem_of_getElem? (i := 1706) (by decide +kernel)⟩
theorem lw_p110 : lw_okq (⟨"MarshBellsModel", "goes", "()V"⟩, 88) := ⟨⟨by decide +kernel, by decide +kernel⟩, List.mem_of_getElem? (i := 1418) (by decide +kernel), List.mem_of_getElem? (i := 1709) (by decide +kernel), List.mem_of_getElem? (i := 1710) (by decide +kernel)⟩
theorem lw_p111 : lw_okq (⟨"MarshBellsModel", "byteAt", "(I)I"⟩, 88) := ⟨⟨by decide +kernel, by decide +kernel⟩, List.mem_of_getElem? (i := 1418) (by decide +kernel), List.mem_of_getElem? (i := 1713) (by decide +kernel), List.mem_of_getElem? (i := 1714) (by decide +kernel)⟩
def lw_privs_7 : List (MethodName × Nat) := [(⟨"MarshBells$Chances", "drawOfTen", "()I"⟩, 7), (⟨"MarshBells$Day", "onBits", "(I)I"⟩, 10), (⟨"MarshBells$Stair", "peopleIn", "(I)I"⟩, 6), (⟨"MarshBells$Day", "clashes", "()I"⟩, 10), (⟨"MarshBells$Day", "clashOf", "(II)I"⟩, 10), (⟨"MarshBells$Day", "firstClash", "()I"⟩, 10), (⟨"MarshBells$Stair", "busiestMinute", "()I"⟩, 6), (⟨"MarshBells$Trials", "leastByShift", "(II)I"⟩, 7), (⟨"MarshBells$Trials", "harmDone", "(II)I"⟩, 7), (⟨"MarshBells$Trials", "withoutTwo", "(I)I"⟩, 7), (⟨"MarshBells$Trials", "leastByPause", "(II)I"⟩, 7), (⟨"MarshBells$Trials", "addGapFrom", "(II)V"⟩, 7), (⟨"MarshBellsModel", "lays", "(I)V"⟩, 88), (⟨"MarshBellsModel", "right", "(ZI)Z"⟩, 88), (⟨"MarshBellsModel", "goes", "()V"⟩, 88), (⟨"MarshBellsModel", "byteAt", "(I)I"⟩, 88)]
theorem lw_r7 : ∀ q ∈ lw_privs_7, lw_okq q := List.forall_mem_cons.mpr ⟨lw_p96, List.forall_mem_cons.mpr ⟨lw_p97, List.forall_mem_cons.mpr ⟨lw_p98, List.forall_mem_cons.mpr ⟨lw_p99, List.forall_mem_cons.mpr ⟨lw_p100, List.forall_mem_cons.mpr ⟨lw_p101, List.forall_mem_cons.mpr ⟨lw_p102, List.forall_mem_cons.mpr ⟨lw_p103, List.forall_mem_cons.mpr ⟨lw_p104, List.forall_mem_cons.mpr ⟨lw_p105, List.forall_mem_cons.mpr ⟨lw_p106, List.forall_mem_cons.mpr ⟨lw_p107, List.forall_mem_cons.mpr ⟨lw_p108, List.forall_mem_cons.mpr ⟨lw_p109, List.forall_mem_cons.mpr ⟨lw_p110, List.forall_mem_cons.mpr ⟨lw_p111, fun _ h => absurd h List.not_mem_nil⟩⟩⟩⟩⟩⟩⟩⟩⟩⟩⟩⟩⟩⟩⟩⟩
theorem lw_p112 : lw_okq (⟨"MarshBellsModel", "isGood", "()Z"⟩, 88) := ⟨⟨by decide +kernel, by decide +kernel⟩, List.mem_of_getElem? (i := 1418) (by decide +kernel), List.mem_of_getElem? (i := 1723) (by decide +kernel), List.mem_of_getElem? (i := 1724) (by decide +kernel)⟩
theorem lw_p113 : lw_okq (⟨"MarshBellsModel", "line", "()V"⟩, 88) := ⟨⟨by decide +kernel, by decide +kernel⟩, List.mem_of_getElem? (i := 1418) (by decide +kernel), List.mem_of_getElem? (i := 1727) (by decide +kernel), List.mem_of_getElem? (i := 1728) (by decide +kernel)⟩
theorem lw_p114 : lw_okq (⟨"MarshBellsModel", "knownWord", "()I"⟩, 88) := ⟨⟨by decide +kernel, by decide +kernel⟩, List.mem_of_getElem? (i := 1418) (by decide +kernel), List.mem_of_getElem? (i := 1731) (by decide +kernel), List.mem_of_getElem? (i := 1732) (by decide +kernel)⟩
theorem lw_p115 : lw_okq (⟨"MarshBellsModel", "readsLesson", "()V"⟩, 88) := ⟨⟨by decide +kernel, by decide +kernel⟩, List.mem_of_getElem? (i := 1418) (by decide +kernel), List.mem_of_getElem? (i := 1742) (by decide +kernel), List.mem_of_getElem? (i := 1743) (by decide +kernel)⟩
theorem lw_p116 : lw_okq (⟨"MarshBellsModel", "wrong", "(I)V"⟩, 88) := ⟨⟨by decide +kernel, by decide +kernel⟩, List.mem_of_getElem? (i := 1418) (by decide +kernel), List.mem_of_getElem? (i := 1746) (by decide +kernel), List.mem_of_getElem? (i := 1747) (by decide +kernel)⟩
theorem lw_p117 : lw_okq (⟨"MarshBellsModel", "number", "(II)I"⟩, 88) := ⟨⟨by decide +kernel, by decide +kernel⟩, List.mem_of_getElem? (i := 1418) (by decide +kernel), List.mem_of_getElem? (i := 1750) (by decide +kernel), List.mem_of_getElem? (i := 1751) (by decide +kernel)⟩
theorem lw_p118 : lw_okq (⟨"MarshBellsModel", "readsWaits", "()V"⟩, 88) := ⟨⟨by decide +kernel, by decide +kernel⟩, List.mem_of_getElem? (i := 1418) (by decide +kernel), List.mem_of_getElem? (i := 1754) (by decide +kernel), List.mem_of_getElem? (i := 1755) (by decide +kernel)⟩
theorem lw_p119 : lw_okq (⟨"MarshBellsModel", "perhaps", "(III)I"⟩, 88) := ⟨⟨by decide +kernel, by decide +kernel⟩, List.mem_of_getElem? (i := 1418) (by decide +kernel), List.mem_of_getElem? (i := 1758) (by decide +kernel), List.mem_of_getElem? (i := 1759) (by decide +kernel)⟩
theorem lw_p120 : lw_okq (⟨"MarshBellsModel", "expression", "()V"⟩, 88) := ⟨⟨by decide +kernel, by decide +kernel⟩, List.mem_of_getElem? (i := 1418) (by decide +kernel), List.mem_of_getElem? (i := 1762) (by decide +kernel), List.mem_of_getElem? (i := 1763) (by decide +kernel)⟩
theorem lw_p121 : lw_okq (⟨"MarshBellsModel", "deeper", "()V"⟩, 88) := ⟨⟨by decide +kernel, by decide +kernel⟩, List.mem_of_getElem? (i := 1418) (by decide +kernel), List.mem_of_getElem? (i := 1766) (by decide +kernel), List.mem_of_getElem? (i := 1767) (by decide +kernel)⟩
theorem lw_p122 : lw_okq (⟨"MarshBellsModel", "isSign", "(I)Z"⟩, 88) := ⟨⟨by decide +kernel, by decide +kernel⟩, List.mem_of_getElem? (i := 1418) (by decide +kernel), List.mem_of_getElem? (i := 1770) (by decide +kernel), List.mem_of_getElem? (i := 1771) (by decide +kernel)⟩
theorem lw_p123 : lw_okq (⟨"MarshBellsModel", "operand", "(Z)V"⟩, 88) := ⟨⟨by decide +kernel, by decide +kernel⟩, List.mem_of_getElem? (i := 1418) (by decide +kernel), List.mem_of_getElem? (i := 1774) (by decide +kernel), List.mem_of_getElem? (i := 1775) (by decide +kernel)⟩
theorem lw_p124 : lw_okq (⟨"MarshBellsModel", "waitsFor", "(I)V"⟩, 88) := ⟨⟨by decide +kernel, by decide +kernel⟩, List.mem_of_getElem? (i := 1418) (by decide +kernel), List.mem_of_getElem? (i := 1778) (by decide +kernel), List.mem_of_getElem? (i := 1779) (by decide +kernel)⟩
theorem lw_p125 : lw_okq (⟨"MarshBellsModel", "part", "()V"⟩, 88) := ⟨⟨by decide +kernel, by decide +kernel⟩, List.mem_of_getElem? (i := 1418) (by decide +kernel), List.mem_of_getElem? (i := 1782) (by decide +kernel), List.mem_of_getElem? (i := 1783) (by decide +kernel)⟩
theorem lw_p126 : lw_okq (⟨"MarshBellsModel", "puts", "(I)V"⟩, 88) := ⟨⟨by decide +kernel, by decide +kernel⟩, List.mem_of_getElem? (i := 1418) (by decide +kernel), List.mem_of_getElem? (i := 1786) (by decide +kernel), List.mem_of_getElem? (i := 1787) (by decide +kernel)⟩
theorem lw_p127 : lw_okq (⟨"MarshBellsModel", "drops", "(I)V"⟩, 88) := ⟨⟨by decide +kernel, by decide +kernel⟩, List.mem_of_getElem? (i := 1418) (by decide +kernel), List.mem_of_getElem? (i := 1790) (by decide +kernel), List.mem_of_getElem? (i := 1791) (by decide +kernel)⟩
def lw_privs_8 : List (MethodName × Nat) := [(⟨"MarshBellsModel", "isGood", "()Z"⟩, 88), (⟨"MarshBellsModel", "line", "()V"⟩, 88), (⟨"MarshBellsModel", "knownWord", "()I"⟩, 88), (⟨"MarshBellsModel", "readsLesson", "()V"⟩, 88), (⟨"MarshBellsModel", "wrong", "(I)V"⟩, 88), (⟨"MarshBellsModel", "number", "(II)I"⟩, 88), (⟨"MarshBellsModel", "readsWaits", "()V"⟩, 88), (⟨"MarshBellsModel", "perhaps", "(III)I"⟩, 88), (⟨"MarshBellsModel", "expression", "()V"⟩, 88), (⟨"MarshBellsModel", "deeper", "()V"⟩, 88), (⟨"MarshBellsModel", "isSign", "(I)Z"⟩, 88), (⟨"MarshBellsModel", "operand", "(Z)V"⟩, 88), (⟨"MarshBellsModel", "waitsFor", "(I)V"⟩, 88), (⟨"MarshBellsModel", "part", "()V"⟩, 88), (⟨"MarshBellsModel", "puts", "(I)V"⟩, 88), (⟨"MarshBellsModel", "drops", "(I)V"⟩, 88)]
theorem lw_r8 : ∀ q ∈ lw_privs_8, lw_okq q := List.forall_mem_cons.mpr ⟨lw_p112, List.forall_mem_cons.mpr ⟨lw_p113, List.forall_mem_cons.mpr ⟨lw_p114, List.forall_mem_cons.mpr ⟨lw_p115, List.forall_mem_cons.mpr ⟨lw_p116, List.forall_mem_cons.mpr ⟨lw_p117, List.forall_mem_cons.mpr ⟨lw_p118, List.forall_mem_cons.mpr ⟨lw_p119, List.forall_mem_cons.mpr ⟨lw_p120, List.forall_mem_cons.mpr ⟨lw_p121, List.forall_mem_cons.mpr ⟨lw_p122, List.forall_mem_cons.mpr ⟨lw_p123, List.forall_mem_cons.mpr ⟨lw_p124, List.forall_mem_cons.mpr ⟨lw_p125, List.forall_mem_cons.mpr ⟨lw_p126, List.forall_mem_cons.mpr ⟨lw_p127, fun _ h => absurd h List.not_mem_nil⟩⟩⟩⟩⟩⟩⟩⟩⟩⟩⟩⟩⟩⟩⟩⟩
theorem lw_p128 : lw_okq (⟨"MarshBellsModel", "isOpened", "()Z"⟩, 88) := ⟨⟨by decide +kernel, by decide +kernel⟩, List.mem_of_getElem? (i := 1418) (by decide +kernel), List.mem_of_getElem? (i := 1800) (by decide +kernel), List.mem_of_getElem? (i := 1801) (by decide +kernel)⟩
theorem lw_p129 : lw_okq (⟨"MarshBellsModel", "closes", "()V"⟩, 88) := ⟨⟨by decide +kernel, by decide +kernel⟩, List.mem_of_getElem? (i := 1418) (by decide +kernel), List.mem_of_getElem? (i := 1804) (by decide +kernel), List.mem_of_getElem? (i := 1805) (by decide +kernel)⟩
theorem lw_p130 : lw_okq (⟨"MarshBellsModel", "need", "(Z)V"⟩, 88) := ⟨⟨by decide +kernel, by decide +kernel⟩, List.mem_of_getElem? (i := 1418) (by decide +kernel), List.mem_of_getElem? (i := 1808) (by decide +kernel), List.mem_of_getElem? (i := 1809) (by decide +kernel)⟩
theorem lw_p131 : lw_okq (⟨"MarshBellsModel", "copies", "([I[I)V"⟩, 88) := ⟨⟨by decide +kernel, by decide +kernel⟩, List.mem_of_getElem? (i := 1418) (by decide +kernel), List.mem_of_getElem? (i := 1812) (by decide +kernel), List.mem_of_getElem? (i := 1813) (by decide +kernel)⟩
theorem lw_p132 : lw_okq (⟨"MarshBellsModel", "lateness", "(I)I"⟩, 88) := ⟨⟨by decide +kernel, by decide +kernel⟩, List.mem_of_getElem? (i := 1418) (by decide +kernel), List.mem_of_getElem? (i := 1827) (by decide +kernel), List.mem_of_getElem? (i := 1828) (by decide +kernel)⟩
theorem lw_p133 : lw_okq (⟨"MarshBellsModel", "works0", "()V"⟩, 88) := ⟨⟨by decide +kernel, by decide +kernel⟩, List.mem_of_getElem? (i := 1418) (by decide +kernel), List.mem_of_getElem? (i := 1831) (by decide +kernel), List.mem_of_getElem? (i := 1832) (by decide +kernel)⟩
theorem lw_p134 : lw_okq (⟨"MarshBellsModel", "thereBy", "(II)I"⟩, 88) := ⟨⟨by decide +kernel, by decide +kernel⟩, List.mem_of_getElem? (i := 1418) (by decide +kernel), List.mem_of_getElem? (i := 1835) (by decide +kernel), List.mem_of_getElem? (i := 1836) (by decide +kernel)⟩
theorem lw_p135 : lw_okq (⟨"MarshBellsModel", "comes", "(II)I"⟩, 88) := ⟨⟨by decide +kernel, by decide +kernel⟩, List.mem_of_getElem? (i := 1418) (by decide +kernel), List.mem_of_getElem? (i := 1839) (by decide +kernel), List.mem_of_getElem? (i := 1840) (by decide +kernel)⟩
theorem lw_p136 : lw_okq (⟨"MarshBellsModel", "way", "(II)I"⟩, 88) := ⟨⟨by decide +kernel, by decide +kernel⟩, List.mem_of_getElem? (i := 1418) (by decide +kernel), List.mem_of_getElem? (i := 1843) (by decide +kernel), List.mem_of_getElem? (i := 1844) (by decide +kernel)⟩
theorem lw_p137 : lw_okq (⟨"MarshBellsModel", "runsOver", "(I)I"⟩, 88) := ⟨⟨by decide +kernel, by decide +kernel⟩, List.mem_of_getElem? (i := 1418) (by decide +kernel), List.mem_of_getElem? (i := 1853) (by decide +kernel), List.mem_of_getElem? (i := 1854) (by decide +kernel)⟩
theorem lw_p138 : lw_okq (⟨"MarshBellsModel", "reckons", "(I)I"⟩, 88) := ⟨⟨by decide +kernel, by decide +kernel⟩, List.mem_of_getElem? (i := 1418) (by decide +kernel), List.mem_of_getElem? (i := 1857) (by decide +kernel), List.mem_of_getElem? (i := 1858) (by decide +kernel)⟩
theorem lw_p139 : lw_okq (⟨"MarshBellsModel", "late", "(I)I"⟩, 88) := ⟨⟨by decide +kernel, by decide +kernel⟩, List.mem_of_getElem? (i := 1418) (by decide +kernel), List.mem_of_getElem? (i := 1864) (by decide +kernel), List.mem_of_getElem? (i := 1865) (by decide +kernel)⟩
theorem lw_p140 : lw_okq (⟨"MarshBellsModel", "lost", "()I"⟩, 88) := ⟨⟨by decide +kernel, by decide +kernel⟩, List.mem_of_getElem? (i := 1418) (by decide +kernel), List.mem_of_getElem? (i := 1868) (by decide +kernel), List.mem_of_getElem? (i := 1869) (by decide +kernel)⟩
theorem lw_p141 : lw_okq (⟨"MarshBellsModel", "isLesson", "(I)Z"⟩, 88) := ⟨⟨by decide +kernel, by decide +kernel⟩, List.mem_of_getElem? (i := 1418) (by decide +kernel), List.mem_of_getElem? (i := 1876) (by decide +kernel), List.mem_of_getElem? (i := 1877) (by decide +kernel)⟩
theorem lw_p142 : lw_okq (⟨"MarshBellsModel", "isWhat", "(II)Z"⟩, 88) := ⟨⟨by decide +kernel, by decide +kernel⟩, List.mem_of_getElem? (i := 1418) (by decide +kernel), List.mem_of_getElem? (i := 1880) (by decide +kernel), List.mem_of_getElem? (i := 1881) (by decide +kernel)⟩
theorem lw_p143 : lw_okq (⟨"MarshBellsModel", "waitsSet", "(I)I"⟩, 88) := ⟨⟨by decide +kernel, by decide +kernel⟩, List.mem_of_getElem? (i := 1418) (by decide +kernel), List.mem_of_getElem? (i := 1884) (by decide +kernel), List.mem_of_getElem? (i := 1885) (by decide +kernel)⟩
def lw_privs_9 : List (MethodName × Nat) := [(⟨"MarshBellsModel", "isOpened", "()Z"⟩, 88), (⟨"MarshBellsModel", "closes", "()V"⟩, 88), (⟨"MarshBellsModel", "need", "(Z)V"⟩, 88), (⟨"MarshBellsModel", "copies", "([I[I)V"⟩, 88), (⟨"MarshBellsModel", "lateness", "(I)I"⟩, 88), (⟨"MarshBellsModel", "works0", "()V"⟩, 88), (⟨"MarshBellsModel", "thereBy", "(II)I"⟩, 88), (⟨"MarshBellsModel", "comes", "(II)I"⟩, 88), (⟨"MarshBellsModel", "way", "(II)I"⟩, 88), (⟨"MarshBellsModel", "runsOver", "(I)I"⟩, 88), (⟨"MarshBellsModel", "reckons", "(I)I"⟩, 88), (⟨"MarshBellsModel", "late", "(I)I"⟩, 88), (⟨"MarshBellsModel", "lost", "()I"⟩, 88), (⟨"MarshBellsModel", "isLesson", "(I)Z"⟩, 88), (⟨"MarshBellsModel", "isWhat", "(II)Z"⟩, 88), (⟨"MarshBellsModel", "waitsSet", "(I)I"⟩, 88)]
theorem lw_r9 : ∀ q ∈ lw_privs_9, lw_okq q := List.forall_mem_cons.mpr ⟨lw_p128, List.forall_mem_cons.mpr ⟨lw_p129, List.forall_mem_cons.mpr ⟨lw_p130, List.forall_mem_cons.mpr ⟨lw_p131, List.forall_mem_cons.mpr ⟨lw_p132, List.forall_mem_cons.mpr ⟨lw_p133, List.forall_mem_cons.mpr ⟨lw_p134, List.forall_mem_cons.mpr ⟨lw_p135, List.forall_mem_cons.mpr ⟨lw_p136, List.forall_mem_cons.mpr ⟨lw_p137, List.forall_mem_cons.mpr ⟨lw_p138, List.forall_mem_cons.mpr ⟨lw_p139, List.forall_mem_cons.mpr ⟨lw_p140, List.forall_mem_cons.mpr ⟨lw_p141, List.forall_mem_cons.mpr ⟨lw_p142, List.forall_mem_cons.mpr ⟨lw_p143, fun _ h => absurd h List.not_mem_nil⟩⟩⟩⟩⟩⟩⟩⟩⟩⟩⟩⟩⟩⟩⟩⟩
theorem lw_p144 : lw_okq (⟨"MarshBellsModel", "refuses", "(I)I"⟩, 88) := ⟨⟨by decide +kernel, by decide +kernel⟩, List.mem_of_getElem? (i := 1418) (by decide +kernel), List.mem_of_getElem? (i := 1900) (by decide +kernel), List.mem_of_getElem? (i := 1901) (by decide +kernel)⟩
theorem lw_p145 : lw_okq (⟨"MarshBellsModel", "keeps", "(II)V"⟩, 88) := ⟨⟨by decide +kernel, by decide +kernel⟩, List.mem_of_getElem? (i := 1418) (by decide +kernel), List.mem_of_getElem? (i := 1904) (by decide +kernel), List.mem_of_getElem? (i := 1905) (by decide +kernel)⟩
theorem lw_p146 : lw_okq (⟨"MarshBellsModel", "moreBy", "(II)I"⟩, 88) := ⟨⟨by decide +kernel, by decide +kernel⟩, List.mem_of_getElem? (i := 1418) (by decide +kernel), List.mem_of_getElem? (i := 1920) (by decide +kernel), List.mem_of_getElem? (i := 1921) (by decide +kernel)⟩
theorem lw_p147 : lw_okq (⟨"MarshBellsModel", "lates", "()I"⟩, 88) := ⟨⟨by decide +kernel, by decide +kernel⟩, List.mem_of_getElem? (i := 1418) (by decide +kernel), List.mem_of_getElem? (i := 1924) (by decide +kernel), List.mem_of_getElem? (i := 1925) (by decide +kernel)⟩
theorem lw_p148 : lw_okq (⟨"MarshBellsModel", "later", "()I"⟩, 88) := ⟨⟨by decide +kernel, by decide +kernel⟩, List.mem_of_getElem? (i := 1418) (by decide +kernel), List.mem_of_getElem? (i := 1928) (by decide +kernel), List.mem_of_getElem? (i := 1929) (by decide +kernel)⟩
theorem lw_p149 : lw_okq (⟨"MarshBellsModel", "asks", "()V"⟩, 88) := ⟨⟨by decide +kernel, by decide +kernel⟩, List.mem_of_getElem? (i := 1418) (by decide +kernel), List.mem_of_getElem? (i := 1955) (by decide +kernel), List.mem_of_getElem? (i := 1956) (by decide +kernel)⟩
theorem lw_p150 : lw_okq (⟨"MarshBellsModel", "weighs", "(II)J"⟩, 88) := ⟨⟨by decide +kernel, by decide +kernel⟩, List.mem_of_getElem? (i := 1418) (by decide +kernel), List.mem_of_getElem? (i := 1959) (by decide +kernel), List.mem_of_getElem? (i := 1960) (by decide +kernel)⟩
theorem lw_p151 : lw_okq (⟨"MarshBellsModel", "tens", "()J"⟩, 88) := ⟨⟨by decide +kernel, by decide +kernel⟩, List.mem_of_getElem? (i := 1418) (by decide +kernel), List.mem_of_getElem? (i := 1963) (by decide +kernel), List.mem_of_getElem? (i := 1964) (by decide +kernel)⟩
theorem lw_p152 : lw_okq (⟨"MarshBellsModel", "swaps", "(II)V"⟩, 88) := ⟨⟨by decide +kernel, by decide +kernel⟩, List.mem_of_getElem? (i := 1418) (by decide +kernel), List.mem_of_getElem? (i := 1979) (by decide +kernel), List.mem_of_getElem? (i := 1980) (by decide +kernel)⟩
theorem lw_p153 : lw_okq (⟨"MarshBellsModel", "bestOf", "(III)I"⟩, 88) := ⟨⟨by decide +kernel, by decide +kernel⟩, List.mem_of_getElem? (i := 1418) (by decide +kernel), List.mem_of_getElem? (i := 1987) (by decide +kernel), List.mem_of_getElem? (i := 1988) (by decide +kernel)⟩
theorem lw_p154 : lw_okq (⟨"MarshBellsModel", "lostBy", "(I)I"⟩, 88) := ⟨⟨by decide +kernel, by decide +kernel⟩, List.mem_of_getElem? (i := 1418) (by decide +kernel), List.mem_of_getElem? (i := 2003) (by decide +kernel), List.mem_of_getElem? (i := 2004) (by decide +kernel)⟩
theorem lw_p155 : lw_okq (⟨"MarshBellsModel", "isSeen", "()Z"⟩, 88) := ⟨⟨by decide +kernel, by decide +kernel⟩, List.mem_of_getElem? (i := 1418) (by decide +kernel), List.mem_of_getElem? (i := 2043) (by decide +kernel), List.mem_of_getElem? (i := 2044) (by decide +kernel)⟩
theorem lw_p156 : lw_okq (⟨"MarshBellsModel", "ways", "()V"⟩, 88) := ⟨⟨by decide +kernel, by decide +kernel⟩, List.mem_of_getElem? (i := 1418) (by decide +kernel), List.mem_of_getElem? (i := 2051) (by decide +kernel), List.mem_of_getElem? (i := 2052) (by decide +kernel)⟩
theorem lw_p157 : lw_okq (⟨"MarshBellsModel", "onStair", "(I)I"⟩, 88) := ⟨⟨by decide +kernel, by decide +kernel⟩, List.mem_of_getElem? (i := 1418) (by decide +kernel), List.mem_of_getElem? (i := 2059) (by decide +kernel), List.mem_of_getElem? (i := 2060) (by decide +kernel)⟩
theorem lw_p158 : lw_okq (⟨"MarshBellsModel", "draw", "(I)I"⟩, 88) := ⟨⟨by decide +kernel, by decide +kernel⟩, List.mem_of_getElem? (i := 1418) (by decide +kernel), List.mem_of_getElem? (i := 2079) (by decide +kernel), List.mem_of_getElem? (i := 2080) (by decide +kernel)⟩
def lw_privs_10 : List (MethodName × Nat) := [(⟨"MarshBellsModel", "refuses", "(I)I"⟩, 88), (⟨"MarshBellsModel", "keeps", "(II)V"⟩, 88), (⟨"MarshBellsModel", "moreBy", "(II)I"⟩, 88), (⟨"MarshBellsModel", "lates", "()I"⟩, 88), (⟨"MarshBellsModel", "later", "()I"⟩, 88), (⟨"MarshBellsModel", "asks", "()V"⟩, 88), (⟨"MarshBellsModel", "weighs", "(II)J"⟩, 88), (⟨"MarshBellsModel", "tens", "()J"⟩, 88), (⟨"MarshBellsModel", "swaps", "(II)V"⟩, 88), (⟨"MarshBellsModel", "bestOf", "(III)I"⟩, 88), (⟨"MarshBellsModel", "lostBy", "(I)I"⟩, 88), (⟨"MarshBellsModel", "isSeen", "()Z"⟩, 88), (⟨"MarshBellsModel", "ways", "()V"⟩, 88), (⟨"MarshBellsModel", "onStair", "(I)I"⟩, 88), (⟨"MarshBellsModel", "draw", "(I)I"⟩, 88)]
theorem lw_r10 : ∀ q ∈ lw_privs_10, lw_okq q := List.forall_mem_cons.mpr ⟨lw_p144, List.forall_mem_cons.mpr ⟨lw_p145, List.forall_mem_cons.mpr ⟨lw_p146, List.forall_mem_cons.mpr ⟨lw_p147, List.forall_mem_cons.mpr ⟨lw_p148, List.forall_mem_cons.mpr ⟨lw_p149, List.forall_mem_cons.mpr ⟨lw_p150, List.forall_mem_cons.mpr ⟨lw_p151, List.forall_mem_cons.mpr ⟨lw_p152, List.forall_mem_cons.mpr ⟨lw_p153, List.forall_mem_cons.mpr ⟨lw_p154, List.forall_mem_cons.mpr ⟨lw_p155, List.forall_mem_cons.mpr ⟨lw_p156, List.forall_mem_cons.mpr ⟨lw_p157, List.forall_mem_cons.mpr ⟨lw_p158, fun _ h => absurd h List.not_mem_nil⟩⟩⟩⟩⟩⟩⟩⟩⟩⟩⟩⟩⟩⟩⟩
def lw_privs : List (MethodName × Nat) := lw_privs_1 ++ (lw_privs_2 ++ (lw_privs_3 ++ (lw_privs_4 ++ (lw_privs_5 ++ (lw_privs_6 ++ (lw_privs_7 ++ (lw_privs_8 ++ (lw_privs_9 ++ (lw_privs_10)))))))))
def lw_tbl : List Cond := k2_sels lw_privs ++ tables_1
theorem lw_privs_ok : ∀ q ∈ lw_privs, lw_okq q := by
  show ∀ q ∈ lw_privs_1 ++ (lw_privs_2 ++ (lw_privs_3 ++ (lw_privs_4 ++ (lw_privs_5 ++ (lw_privs_6 ++ (lw_privs_7 ++ (lw_privs_8 ++ (lw_privs_9 ++ (lw_privs_10))))))))), lw_okq q
  exact List.forall_mem_append.mpr ⟨lw_r1, List.forall_mem_append.mpr ⟨lw_r2, List.forall_mem_append.mpr ⟨lw_r3, List.forall_mem_append.mpr ⟨lw_r4, List.forall_mem_append.mpr ⟨lw_r5, List.forall_mem_append.mpr ⟨lw_r6, List.forall_mem_append.mpr ⟨lw_r7, List.forall_mem_append.mpr ⟨lw_r8, List.forall_mem_append.mpr ⟨lw_r9, lw_r10⟩⟩⟩⟩⟩⟩⟩⟩⟩
-- ===== end of PART A; then your names; then what follows =====
end
section
/-! ===== BEGIN words of one list among another's, by their places ===== -/
theorem goodIn_r {big : List Cond} (ws : List Cond) (ps : List Nat) (hp : ws = ps.filterMap (fun i => big[i]?)) (h : ws.all goodWord = true) : GoodIn big ws := by
  intro w hw
  have h1 := List.all_eq_true.mp h w hw
  rw [hp] at hw
  obtain ⟨i, -, hi⟩ := List.mem_filterMap.mp hw
  have hm : w ∈ big := by first | exact List.mem_of_getElem? hi | exact List.getElem?_mem hi
  exact ⟨hm, good_of_word h1⟩
theorem goodIn_app {big a b : List Cond} (ha : GoodIn big a) (hb : GoodIn big b) : GoodIn big (a ++ b) := fun w h => (List.mem_append.mp h).elim (ha w) (hb w)
theorem goodIn_ca {big a b : List Cond} {c : Cond} (ha : GoodIn big (c :: a)) (hb : GoodIn big b) : GoodIn big (c :: (a ++ b)) := fun w h => (List.mem_cons.mp h).elim (fun e => ha w (List.mem_cons.mpr (Or.inl e))) (fun h => (List.mem_append.mp h).elim (fun h => ha w (List.mem_cons.mpr (Or.inr h))) (hb w))
theorem goodIn_sub {big ws : List Cond} (hm : ∀ w ∈ ws, w ∈ big) (h : ws.all goodWord = true) : GoodIn big ws := fun w hw => ⟨hm w hw, good_of_word (List.all_eq_true.mp h w hw)⟩
/-! ===== END ===== -/

/-! ===== BEGIN exceptions that leave a method, and their catching by the caller (launches without stack traces) ===== -/
section VXA
/-! The laws vx_back, vx_callV, vx_callS, vx_callSW, vx_throw0, vx_throwS follow proofs of the library, with one case more: JvmDerived/Free/Laws.lean (Back.of_free), Shelf42/LK1.lean (callV, callS), Shelf/KitTraced.lean (throwNew0V, throwNewS). -/

/-- where a method has thrown q: the class by its name, the cell, what was written, the world -/
def vx_T (XC : String → State → State → Prop) (st : State) (q : Addr) (t : State) (mc ms : Nat) (free : Addr → Prop) : Prop :=
  ∃ (E : String) (ce : Cell) (L : List Loc), XC E st t ∧ t.heap[q]? = some ce ∧ ce.vm = .none ∧ st.vm.findClass E = some ce.cls ∧ st.WarmedH t.vm ∧ st.sameButNew ({ t with vm := st.vm } : State) L mc ms ∧ ∀ z ∈ L, free z.base
def vx_Q (Qc : Array Value → State → Outcome → State → Prop) (XC : String → State → State → Prop) (mc ms : Nat) (free : Addr → Prop) : Array Value → State → Outcome → State → Prop := fun a st o t =>
  (Qc a st o t ∧ ∃ L, FrameEnd st o t L mc ms ∧ ∀ q ∈ L, free q.base) ∨ ∃ q, o = .threw q ∧ vx_T XC st q t mc ms free
/-- a callee that returns or throws -/
def vx_Met (l : Launch) (y : MethodName) (ws : List Cond) (rm : Room) (Pc : Array Value → State → Prop) (Qc : Array Value → State → Outcome → State → Prop) (XC : String → State → State → Prop) (mc ms : Nat) (free : Addr → Prop) : Prop :=
  MetFree l y (headSpec ws rm) Pc (fun _ _ _ _ _ => True) (vx_Q Qc XC mc ms free)
def vx_Post (XC : String → State → State → Prop) (mc ms : Nat) (free : Addr → Prop) : Pt → Array Value → Addr → Pt → Prop := fun A a q B =>
  ∃ (g : JFrame) (mk : MethodId) (t : State) (L : List Loc) (E : String) (ce : Cell), B.U.heap = t.heap ∧ B.U.vm = t.vm ∧ XC E (A.U.calling g mk a) t ∧ t.heap[q]? = some ce ∧ ce.vm = .none ∧ A.U.vm.findClass E = some ce.cls ∧ B.locs = A.locs ++ L ∧ (∀ z ∈ L, free z.base) ∧ B.cells = A.cells + mc ∧ B.slots = A.slots + ms
def vx_Back (l : Launch) (R : Room) (p : Program) (e : Env) (below : List Frame) (s : State) (sargs : Array Value) (y : MethodName) (len W9 : Nat)
    (Pre : Pt → Array Value → Prop) (Post : Pt → Array Value → Option Value → Pt → Prop) (PostX : Pt → Array Value → Addr → Pt → Prop) : Prop :=
  ∀ (m : MethodId) (meth : Method) (c : Code) (A : Pt) (g : JFrame) (ig : Instr) (mk : MethodId) (a : Array Value),
    Stand p l e R s m sargs below meth c A.U A.locs A.cells A.slots → g.method = m → g.locals.size = c.maxLocals → decode c.code g.pc = .ok (ig, len) →
    2 * g.monitorRoom + (g.stack.map fun v => v.category).sum ≤ W9 → A.U.methodNamed? y = some mk → Pre A a →
    (∃ (v : Option Value) (B : Pt), Stand p l e R s m sargs below meth c B.U B.locs B.cells B.slots ∧ Post A a v B ∧
      Steps p.tables e below (doInvoke e (A.U.setTop g) [] mk a).1 (B.U.setTop { g with pc := g.pc + len, stack := v.toList ++ g.stack })) ∨
    (∃ (q : Addr) (B : Pt), Stand p l e R s m sargs below meth c B.U B.locs B.cells B.slots ∧ PostX A a q B ∧
      Steps p.tables e below (doInvoke e (A.U.setTop g) [] mk a).1 ((B.U.setTop g).pushFrame (.throwing q)))
section Payer
variable {l : Launch} {R : Room} {p : Program} {e : Env} {below : List Frame} {s : State} {sargs : Array Value} {y : MethodName} {len W9 : Nat}
theorem vx_back {ws : List Cond} {rm : Room} {Pc : Array Value → State → Prop} {Qc : Array Value → State → Outcome → State → Prop} {XC : String → State → State → Prop} {mc ms : Nat} {free : Addr → Prop} {bytes : ByteArray} {maxL : Nat} {ret : Option FieldType}
    (hM : vx_Met l y ws rm Pc Qc XC mc ms free) (hblind : FrameBlind Pc) (hrc : rm.cells = mc) (hrs : rm.slots = ms)
    (hframes : rm.frames + 1 ≤ R.frames) (hlocals : W9 + (maxL + 11) + rm.locals ≤ R.locals)
    (hws : ∀ w ∈ ws, ∀ a' U, s.WarmedH U.vm → w.before a' U = true) (hcode : Cond.code y bytes maxL ret ∈ ws) (hinit : ∀ a' U, s.WarmedH U.vm → (Cond.initialized y.cls).before a' U = true) :
    vx_Back l R p e below s sargs y len W9 (PreOf R mc ms Pc) (PostOf Qc mc ms free) (vx_Post XC mc ms free) := by
  intro m meth c A g ig mk a X hg hsize hdg hW hn hp
  have h1 : (headSpec ws rm).pre.before a A.U = true := atoms_intro fun w hw => hws w hw _ _ X.warmed
  have h2 : (Cond.code y bytes maxL ret).before a A.U = true := hws _ hcode _ _ X.warmed
  have h3 : (Cond.initialized y.cls).before a A.U = true := hinit _ _ X.warmed
  have h4 : A.cells + (headSpec ws rm).room.cells ≤ R.cells := by rw [show (headSpec ws rm).room.cells = mc from hrc]; exact hp.1
  have h5 : A.slots + (headSpec ws rm).room.slots ≤ R.slots := by rw [show (headSpec ws rm).room.slots = ms from hrs]; exact hp.2.1
  have hPc : Pc a (A.U.calling g mk a) := hblind _ _ _ _ hp.2.2
  obtain ⟨U, Ls, c0, s0⟩ := A
  dsimp only [Pt.U, Pt.locs, Pt.cells, Pt.slots] at h1 h2 h3 h4 h5 X hn hPc ⊢
  obtain ⟨methY, cY, hmY, hcY, -, hlY, -, -, -, -⟩ := Cond.code_spec hn h2
  obtain ⟨kY, hkY, -⟩ := className_of_methodNamed hn
  have hinitY : kY.init = .initialized := Cond.initialized_spec (findClass_of_methodNamed hn) hkY h3
  have h : At U g.method c below := by rw [hg]; exact X.here
  have hlocals9 : W9 + (maxL + 11) + (headSpec ws rm).room.locals ≤ R.locals := hlocals
  have happ : (headSpec ws rm).appliesLoose y e.platform (U.calling g mk a) = true :=
    Spec.appliesLoose_calling (g := g) h hdg hn hkY hinitY
      (X.room_calling (g := g) (R' := (headSpec ws rm).room) hsize hmY hcY hframes (by rw [hlY]; omega) h4 h5) h1
  obtain ⟨mid, hmid⟩ := h.above
  have hfr : (U.setTop g).frames = (.java g :: mid) ++ below := by rw [State.frames_setTop' g h.top, hmid]; rfl
  obtain ⟨o, s₂, hsteps, -, hend, hq⟩ := Steps.callFree hM p X.admits X.cas X.clock (acts := []) hfr happ hPc trivial
  have hq' : vx_Q Qc XC mc ms free a (U.calling g mk a) o s₂ := hq
  rw [State.frames_setTop' g h.top] at hend
  obtain ⟨g₀, hg0⟩ := Option.isSome_iff_exists.mp h.top
  obtain ⟨r, hr⟩ := State.topJava?_eq_some.mp hg0
  have hr' : (({ U with heap := s₂.heap, slotsUsed := s₂.slotsUsed } : State).setVm s₂.vm).frames = .java g₀ :: r := hr
  rcases hq' with ⟨hqc, L, hfe, hL⟩ | ⟨q, rfl, E, ce, L, hx, hce, hcv, hcl, hW₂, hsm, hL⟩
  · obtain ⟨⟨v, rfl⟩, hW₂, e2, q2, q3, q4, q5, q6⟩ := id hfe
    have e3 : s₂ = ({ (U.calling g mk a).setFrames s₂.frames with heap := s₂.heap, slotsUsed := s₂.slotsUsed } : State).setVm s₂.vm := by
      have : s₂ = ({ s₂ with vm := (U.calling g mk a).vm } : State).setVm s₂.vm := rfl
      rw [e2] at this
      exact this
    obtain ⟨c₂, i₂, len₂, hc₂, hd₂, hf₂⟩ := hend
    have hW' : U.WarmedH s₂.vm := hW₂
    have hcc : c₂ = c := by
      have h1 : s₂.code? g.method = U.code? g.method := by
        rw [State.code?_eq, State.code?_eq, hW'.alike.method?]
      exact Option.some.inj (hc₂.symm.trans (h1.trans h.code))
    subst hcc
    have hlen : len₂ = len := by rw [hdg] at hd₂; cases hd₂; rfl
    subst hlen
    have hs₂ : s₂ = (({ U with heap := s₂.heap, slotsUsed := s₂.slotsUsed } : State).setVm s₂.vm).setTop { g with pc := g.pc + len₂, stack := v.toList ++ g.stack } := by
      refine e3.trans ?_
      rw [hf₂, State.calling_eq h.top, State.setFrames_setFrames, State.setTop_of_frames _ hr', hr]
      rfl
    have hsame : U.sameButNew ({ U with heap := s₂.heap, slotsUsed := s₂.slotsUsed } : State) L mc ms := by
      refine ⟨?_, q2, q3, q4, q5, q6⟩
      obtain ⟨t, ht, -⟩ := State.frames_cons hr
      show ({ U with heap := s₂.heap, slotsUsed := s₂.slotsUsed } : State) = { U.setFrames U.frames with heap := s₂.heap, slotsUsed := s₂.slotsUsed }
      rw [State.setFrames_self ht]
    subst hg
    refine Or.inl ⟨v, ⟨(({ U with heap := s₂.heap, slotsUsed := s₂.slotsUsed } : State).setVm s₂.vm), Ls ++ L, c0 + mc, s0 + ms⟩,
      ⟨X.admits, X.cas, X.clock, X.frames, X.room, X.hears, X.method, X.code, (X.here.setHeapUsed s₂.heap s₂.slotsUsed).setVm hW'.alike, X.tail, State.WarmedH.trans X.warmed hW', X.limits, X.bytes, X.same.trans (hsame.setVm s.vm)⟩,
      ⟨g, mk, s₂, L, rfl, rfl, hqc, rfl, hL, rfl, rfl⟩, ?_⟩
    show Steps p.tables e below _ ((({ U with heap := s₂.heap, slotsUsed := s₂.slotsUsed } : State).setVm s₂.vm).setTop { g with pc := g.pc + len₂, stack := v.toList ++ g.stack })
    rw [← hs₂]
    exact hsteps
  · obtain ⟨e2, q2, q3, q4, q5, q6⟩ := id hsm
    have e3 : s₂ = ({ (U.calling g mk a).setFrames s₂.frames with heap := s₂.heap, slotsUsed := s₂.slotsUsed } : State).setVm s₂.vm := by
      have : s₂ = ({ s₂ with vm := (U.calling g mk a).vm } : State).setVm s₂.vm := rfl
      rw [e2] at this
      exact this
    have hf₂ : s₂.frames = .throwing q :: .java g :: U.frames.tail := hend
    have hW' : U.WarmedH s₂.vm := hW₂
    have hs₂ : s₂ = ((({ U with heap := s₂.heap, slotsUsed := s₂.slotsUsed } : State).setVm s₂.vm).setTop g).pushFrame (.throwing q) := by
      refine e3.trans ?_
      rw [hf₂, State.calling_eq h.top, State.setFrames_setFrames, State.pushFrame, State.frames_setTop _ hr', State.setTop_of_frames _ hr', State.setFrames_setFrames, hr]
      rfl
    have hsame : U.sameButNew ({ U with heap := s₂.heap, slotsUsed := s₂.slotsUsed } : State) L mc ms := by
      refine ⟨?_, q2, q3, q4, q5, q6⟩
      obtain ⟨t, ht, -⟩ := State.frames_cons hr
      show ({ U with heap := s₂.heap, slotsUsed := s₂.slotsUsed } : State) = { U.setFrames U.frames with heap := s₂.heap, slotsUsed := s₂.slotsUsed }
      rw [State.setFrames_self ht]
    subst hg
    refine Or.inr ⟨q, ⟨(({ U with heap := s₂.heap, slotsUsed := s₂.slotsUsed } : State).setVm s₂.vm), Ls ++ L, c0 + mc, s0 + ms⟩,
      ⟨X.admits, X.cas, X.clock, X.frames, X.room, X.hears, X.method, X.code, (X.here.setHeapUsed s₂.heap s₂.slotsUsed).setVm hW'.alike, X.tail, State.WarmedH.trans X.warmed hW', X.limits, X.bytes, X.same.trans (hsame.setVm s.vm)⟩,
      ⟨g, mk, s₂, L, E, ce, rfl, rfl, hx, hce, hcv, hcl, rfl, hL, rfl, rfl⟩, ?_⟩
    show Steps p.tables e below _ (((({ U with heap := s₂.heap, slotsUsed := s₂.slotsUsed } : State).setVm s₂.vm).setTop g).pushFrame (.throwing q))
    rw [← hs₂]
    exact hsteps
end Payer
section Calls
variable {p : Program} {l : Launch} {e : Env} {R : Room} {s : State} {m : MethodId} {args : Array Value} {below : List Frame} {meth : Method} {c : Code} {T : State} {locs : List Loc} {cells slots : Nat}
theorem vx_callV (X : Stand p l e R s m args below meth c T locs cells slots) (hexec : p.tables.exec = Jvm.exec) {own C : String} {index : Nat} {y : MethodName} {bytes : ByteArray} {maxL : Nat} {ret : Option FieldType}
    (hown : s.vm.findClass own = some m.cls) (hlink : (Cond.methodLink own index y).before args s = true) (hinst : (Cond.instanceMethod y).before args s = true) (hsel : (Cond.selects C y y).before args s = true)
    (hcode : (Cond.code y bytes maxL ret).before args s = true) (hy : y.cls ≠ "java/lang/invoke/MethodHandle" ∧ y.cls ≠ "java/lang/invoke/VarHandle")
    {W9 : Nat} {Pre : Pt → Array Value → Prop} {Post : Pt → Array Value → Option Value → Pt → Prop} {PostX : Pt → Array Value → Addr → Pt → Prop} (hK : vx_Back l R p e below s args y 3 W9 Pre Post PostX)
    {b : Addr} {cellB : Cell} (hcell : T.heap[b]? = some cellB) (hobj : cellB.vm.isStatics = false) (hcls : s.vm.findClass C = some cellB.cls)
    {g : JFrame} (hg : g.method = m) (hsize : g.locals.size = c.maxLocals) {argsL rest : List Value} (hlen : ∀ sig, parseMethodDescriptor y.desc = some sig → argsL.length = sig.parameters.length)
    (hstack : g.stack = argsL.reverse ++ .ref b :: rest) (hW : 2 * g.monitorRoom + (rest.map fun v => v.category).sum ≤ W9) (hdg : decode c.code g.pc = .ok (.invokevirtual index, 3))
    (hpre : ∀ vm₁, s.WarmedH vm₁ → Pre ⟨T.setVm vm₁, locs, cells, slots⟩ (Value.ref b :: argsL).toArray) :
    (∃ (v : Option Value) (vm₁ : Vm) (B : Pt), s.WarmedH vm₁ ∧ Stand p l e R s m args below meth c B.U B.locs B.cells B.slots ∧ Post ⟨T.setVm vm₁, locs, cells, slots⟩ (Value.ref b :: argsL).toArray v B ∧
      ∀ target, Steps p.tables e below (B.U.setTop { g with pc := g.pc + 3, stack := v.toList ++ rest }) target → Steps p.tables e below (T.setTop g) target) ∨
    (∃ (q : Addr) (vm₁ : Vm) (B : Pt), s.WarmedH vm₁ ∧ Stand p l e R s m args below meth c B.U B.locs B.cells B.slots ∧ PostX ⟨T.setVm vm₁, locs, cells, slots⟩ (Value.ref b :: argsL).toArray q B ∧
      Steps p.tables e below (T.setTop g) ((B.U.setTop { g with stack := rest }).pushFrame (.throwing q))) := by
  obtain ⟨mk, methM, hnamed, hmethM, hstM, habM⟩ := Cond.instanceMethod_spec hinst
  obtain ⟨methM', cM, hmethM', -, -, -, -, -, -, hsigM⟩ := Cond.code_spec hnamed hcode
  cases hmethM.symm.trans hmethM'
  obtain ⟨c2, r2, m2, q1, q2, q3, q4, kP, hkP, hkPi⟩ := Cond.selects_spec hsel
  cases hcls.symm.trans q1
  cases (State.methodFound?_of_named hnamed hy).symm.trans q2
  cases hnamed.symm.trans q3
  have hselP : selectMethod e.platform s.vm cellB.cls mk = .method mk := by rw [Launch.admits_selectMethod X.admits]; exact q4
  obtain ⟨vm₁, X₁, hstep₁⟩ := X.invokevirtual hexec hown hlink hnamed hmethM hstM hkP hkPi hy (a := b) (cell := cellB) hcell
    (fun z h => by rw [h] at hobj; cases hobj) hselP hmethM habM hkP hkPi (g := g) hg (argsL := argsL) (rest := rest) (hlen _ hsigM) hstack hdg
  rcases hK m meth c ⟨T.setVm vm₁, locs, cells, slots⟩ { g with stack := rest } (.invokevirtual index) mk (Value.ref b :: argsL).toArray X₁ hg hsize hdg hW (X₁.named hnamed) (hpre vm₁ X₁.warmed) with ⟨v, B, X', hpost, hsteps⟩ | ⟨q, B, X', hpost, hsteps⟩
  · exact Or.inl ⟨v, vm₁, B, X₁.warmed, X', hpost, fun target h => hstep₁ _ fun acts => by rw [doInvoke_state]; exact hsteps.trans h⟩
  · exact Or.inr ⟨q, vm₁, B, X₁.warmed, X', hpost, hstep₁ _ fun acts => by rw [doInvoke_state]; exact hsteps⟩
theorem vx_callS (X : Stand p l e R s m args below meth c T locs cells slots) (hexec : p.tables.exec = Jvm.exec) {own : String} {index : Nat} {y : MethodName} {bytes : ByteArray} {maxL : Nat} {ret : Option FieldType}
    (hown : s.vm.findClass own = some m.cls) (hlink : (Cond.methodLink own index y).before args s = true) (hstat : (Cond.static y).before args s = true) (hinit : (Cond.initialized y.cls).before args s = true)
    (hcode : (Cond.code y bytes maxL ret).before args s = true) (hy : y.cls ≠ "java/lang/invoke/MethodHandle" ∧ y.cls ≠ "java/lang/invoke/VarHandle")
    {W9 : Nat} {Pre : Pt → Array Value → Prop} {Post : Pt → Array Value → Option Value → Pt → Prop} {PostX : Pt → Array Value → Addr → Pt → Prop} (hK : vx_Back l R p e below s args y 3 W9 Pre Post PostX)
    {g : JFrame} (hg : g.method = m) (hsize : g.locals.size = c.maxLocals) {argsL rest : List Value} (hlen : ∀ sig, parseMethodDescriptor y.desc = some sig → argsL.length = sig.parameters.length)
    (hstack : g.stack = argsL.reverse ++ rest) (hW : 2 * g.monitorRoom + (rest.map fun v => v.category).sum ≤ W9) (hdg : decode c.code g.pc = .ok (.invokestatic index, 3))
    (hpre : ∀ vm₁, s.WarmedH vm₁ → Pre ⟨T.setVm vm₁, locs, cells, slots⟩ argsL.toArray) :
    (∃ (v : Option Value) (vm₁ : Vm) (B : Pt), s.WarmedH vm₁ ∧ Stand p l e R s m args below meth c B.U B.locs B.cells B.slots ∧ Post ⟨T.setVm vm₁, locs, cells, slots⟩ argsL.toArray v B ∧
      ∀ target, Steps p.tables e below (B.U.setTop { g with pc := g.pc + 3, stack := v.toList ++ rest }) target → Steps p.tables e below (T.setTop g) target) ∨
    (∃ (q : Addr) (vm₁ : Vm) (B : Pt), s.WarmedH vm₁ ∧ Stand p l e R s m args below meth c B.U B.locs B.cells B.slots ∧ PostX ⟨T.setVm vm₁, locs, cells, slots⟩ argsL.toArray q B ∧
      Steps p.tables e below (T.setTop g) ((B.U.setTop { g with stack := rest }).pushFrame (.throwing q))) := by
  obtain ⟨mk, hnamed⟩ := Cond.code_named hcode
  obtain ⟨methM, cM, hmethM, -, -, -, -, -, -, hsigM⟩ := Cond.code_spec hnamed hcode
  have hstatic : methM.isStatic = true := Cond.static_spec hnamed hmethM hstat
  obtain ⟨kP, hkP, -⟩ := className_of_methodNamed hnamed
  have hinitP : kP.init = .initialized := Cond.initialized_spec (findClass_of_methodNamed hnamed) hkP hinit
  obtain ⟨vm₁, X₁, hstep₁⟩ := X.invokestatic hexec hown hlink hnamed hmethM hstatic hkP hinitP hy (g := g) hg (argsL := argsL) (rest := rest) (hlen _ hsigM) hstack hdg
  rcases hK m meth c ⟨T.setVm vm₁, locs, cells, slots⟩ { g with stack := rest } (.invokestatic index) mk argsL.toArray X₁ hg hsize hdg hW (X₁.named hnamed) (hpre vm₁ X₁.warmed) with ⟨v, B, X', hpost, hsteps⟩ | ⟨q, B, X', hpost, hsteps⟩
  · exact Or.inl ⟨v, vm₁, B, X₁.warmed, X', hpost, fun target h => hstep₁ _ fun acts => by rw [doInvoke_state]; exact hsteps.trans h⟩
  · exact Or.inr ⟨q, vm₁, B, X₁.warmed, X', hpost, hstep₁ _ fun acts => by rw [doInvoke_state]; exact hsteps⟩
end Calls
theorem vx_cls {s : State} {T : State} {vm₁ : Vm} {E : String} {k : ClassId} (hW : s.WarmedH vm₁) (h : (T.setVm vm₁).vm.findClass E = some k) : s.vm.findClass E = some k := by
  have h1 : vm₁.findClass E = some k := h
  rw [hW.alike.findClass] at h1
  exact h1
/-- the method's frame g, with q thrown over it -/
def vx_W (p : Program) (l : Launch) (e : Env) (R : Room) (s : State) (m : MethodId) (args : Array Value) (below : List Frame) (meth : Method) (c : Code) (H : Heap) (locs : List Loc) (cells slots : Nat) (Q : State → Prop) (g : JFrame) (q : Addr) : Prop :=
  ∀ T : State, T.heap = H → Stand p l e R s m args below meth c T locs cells slots → ∃ t, Steps p.tables e below ((T.setTop g).pushFrame (.throwing q)) t ∧ Q t
def vx_Run (p : Program) (l : Launch) (e : Env) (R : Room) (s : State) (m : MethodId) (args : Array Value) (below : List Frame) (meth : Method) (c : Code) (H : Heap) (locs : List Loc) (cells slots mc ms : Nat) (g : JFrame) (rest : List Value) (Qa : State → Outcome → State → Prop) (XC : String → State → State → Prop) (free : Addr → Prop) : Prop :=
  ∀ T : State, T.heap = H → Stand p l e R s m args below meth c T locs cells slots →
    (∃ (v : Option Value) (st₀ t T' : State) (L : List Loc), st₀.heap = H ∧ Stand p l e R s m args below meth c T' (locs ++ L) (cells + mc) (slots + ms) ∧ (∀ q ∈ L, free q.base) ∧ T'.heap = t.heap ∧ T'.vm = t.vm ∧ Qa st₀ (.returned v) t ∧
      Goes p e below T g T' { g with pc := g.pc + 3, stack := v.toList ++ rest }) ∨
    (∃ (q : Addr) (st₀ t T' : State) (L : List Loc) (E : String) (ce : Cell), st₀.heap = H ∧ Stand p l e R s m args below meth c T' (locs ++ L) (cells + mc) (slots + ms) ∧ (∀ z ∈ L, free z.base) ∧ T'.heap = t.heap ∧ T'.vm = t.vm ∧ XC E st₀ t ∧ t.heap[q]? = some ce ∧ ce.vm = .none ∧ s.vm.findClass E = some ce.cls ∧
      Steps p.tables e below (T.setTop g) ((T'.setTop { g with stack := rest }).pushFrame (.throwing q)))
def vx_X {S : Type} (px : S → Prop) (B : String → S → State → Prop) (A : Nat → Prop) : String → State → State → Prop := fun E st t => ∃ u : S, px u ∧ B E u t ∧ va_F A st t
section Runs
variable {p : Program} {l : Launch} {e : Env} {R : Room} {s : State} {m : MethodId} {args : Array Value} {below : List Frame} {meth : Method} {c : Code} {H : Heap} {locs : List Loc} {cells slots : Nat}
variable {y : MethodName} {bytes cc : ByteArray} {maxL nL mc ms n index : Nat} {ret : Option FieldType} {ws : List Cond} {rm : Room} {Pc : Array Value → State → Prop} {Qc : Array Value → State → Outcome → State → Prop} {XC : String → State → State → Prop} {free : Addr → Prop} {Ts : List Cond} {own C : String} {b : Addr} {As rest : List Value} {g : JFrame}
theorem vx_callBack (cb : CallB R s args own index y bytes maxL ret ws rm mc ms n) (hM : vx_Met l y ws rm Pc Qc XC mc ms free) (hbl : FrameBlind Pc) : vx_Back l R p e below s args y 3 8 (PreOf R mc ms Pc) (PostOf Qc mc ms free) (vx_Post XC mc ms free) := by
  obtain ⟨hrc, hrs, hfr, hlo, hws, hcw, -, hini, -⟩ := cb
  exact vx_back (bytes := bytes) (maxL := maxL) (ret := ret) hM hbl hrc hrs hfr hlo hws hcw (fun a' U hW => word_at hW (Or.inl (by first | rfl | simp [Cond.onTables, Cond.keeps, Cond.steady])) hini)
theorem vx_runV (S : CallFix p m c cc nL s args Ts own) (hM : vx_Met l y ws rm Pc Qc XC mc ms free) (cw : CallW R s args own C index y bytes maxL ret ws rm mc ms n) (hp : PreV s H C b Pc As)
    (hg : g.method = m) (hn : As.length = n) (hsize : g.locals.size = nL) (hstack : g.stack = As.reverse ++ .ref b :: rest) (hW : 2 * g.monitorRoom + (rest.map fun v => v.category).sum ≤ 8) (hdg : decode cc g.pc = .ok (.invokevirtual index, 3)) (hf : cells + mc ≤ R.cells ∧ slots + ms ≤ R.slots) :
    vx_Run p l e R s m args below meth c H locs cells slots mc ms g rest (Qc (Value.ref b :: As).toArray) XC free := by
  have hK : vx_Back l R p e below s args y 3 8 (PreOf R mc ms Pc) (PostOf Qc mc ms free) (vx_Post XC mc ms free) := vx_callBack cw.1 hM hp.1
  obtain ⟨⟨-, -, -, -, -, -, hcode, -, hy, hlen, hl⟩, hin, hse⟩ := cw
  obtain ⟨hx, hb, hml, ho, -⟩ := S
  obtain ⟨-, ⟨cellB, hcB, hoB, hclB⟩, hPc⟩ := hp
  intro T hT X
  rcases vx_callV X hx (C := C) (bytes := bytes) (maxL := maxL) (ret := ret) ho hl hin hse hcode hy hK (by rw [hT]; exact hcB) hoB hclB hg (hsize.trans hml.symm) (argsL := As) (rest := rest) (fun sig h => hn.trans (hlen sig h)) hstack hW (by rw [hb]; exact hdg)
    (fun vm₁ hW₁ => ⟨hf.1, hf.2, hPc (T.setVm vm₁) hT hW₁⟩) with ⟨v, vm₁, ⟨U', l2, c2, s2⟩, hW₁, X', ⟨g', mk, t, L, e1, e2, hq, h1, hL, h2, h3⟩, st⟩ | ⟨q, vm₁, ⟨U', l2, c2, s2⟩, hW₁, X', ⟨g', mk, t, L, E, ce, e1, e2, hq, hce, hcv, hcl, h1, hL, h2, h3⟩, st⟩
  · dsimp only [Pt.U, Pt.locs, Pt.cells, Pt.slots] at X' e1 e2 h1 h2 h3 st
    subst h1; subst h2; subst h3
    exact Or.inl ⟨v, (T.setVm vm₁).calling g' mk (Value.ref b :: As).toArray, t, U', L, hT, X', hL, e1, e2, hq, st⟩
  · dsimp only [Pt.U, Pt.locs, Pt.cells, Pt.slots] at X' e1 e2 h1 h2 h3 st hcl
    subst h1; subst h2; subst h3
    exact Or.inr ⟨q, (T.setVm vm₁).calling g' mk (Value.ref b :: As).toArray, t, U', L, E, ce, hT, X', hL, e1, e2, hq, hce, hcv, vx_cls hW₁ hcl, st⟩
theorem vx_runS (S : CallFix p m c cc nL s args Ts own) (hM : vx_Met l y ws rm Pc Qc XC mc ms free) (cw : CallB R s args own index y bytes maxL ret ws rm mc ms n ∧ (Cond.static y).before args s = true) (hp : PreS s H Pc As)
    (hg : g.method = m) (hn : As.length = n) (hsize : g.locals.size = nL) (hstack : g.stack = As.reverse ++ rest) (hW : 2 * g.monitorRoom + (rest.map fun v => v.category).sum ≤ 8) (hdg : decode cc g.pc = .ok (.invokestatic index, 3)) (hf : cells + mc ≤ R.cells ∧ slots + ms ≤ R.slots) :
    vx_Run p l e R s m args below meth c H locs cells slots mc ms g rest (Qc As.toArray) XC free := by
  have hK : vx_Back l R p e below s args y 3 8 (PreOf R mc ms Pc) (PostOf Qc mc ms free) (vx_Post XC mc ms free) := vx_callBack cw.1 hM hp.1
  obtain ⟨⟨-, -, -, -, -, -, hcode, hini, hy, hlen, hl⟩, hstt⟩ := cw
  obtain ⟨hx, hb, hml, ho, -⟩ := S
  intro T hT X
  rcases vx_callS X hx (bytes := bytes) (maxL := maxL) (ret := ret) ho hl hstt hini hcode hy hK hg (hsize.trans hml.symm) (argsL := As) (rest := rest) (fun sig h => hn.trans (hlen sig h)) hstack hW (by rw [hb]; exact hdg)
    (fun vm₁ hW₁ => ⟨hf.1, hf.2, hp.2 (T.setVm vm₁) hT hW₁⟩) with ⟨v, vm₁, ⟨U', l2, c2, s2⟩, hW₁, X', ⟨g', mk, t, L, e1, e2, hq, h1, hL, h2, h3⟩, st⟩ | ⟨q, vm₁, ⟨U', l2, c2, s2⟩, hW₁, X', ⟨g', mk, t, L, E, ce, e1, e2, hq, hce, hcv, hcl, h1, hL, h2, h3⟩, st⟩
  · dsimp only [Pt.U, Pt.locs, Pt.cells, Pt.slots] at X' e1 e2 h1 h2 h3 st
    subst h1; subst h2; subst h3
    exact Or.inl ⟨v, (T.setVm vm₁).calling g' mk As.toArray, t, U', L, hT, X', hL, e1, e2, hq, st⟩
  · dsimp only [Pt.U, Pt.locs, Pt.cells, Pt.slots] at X' e1 e2 h1 h2 h3 st hcl
    subst h1; subst h2; subst h3
    exact Or.inr ⟨q, (T.setVm vm₁).calling g' mk As.toArray, t, U', L, E, ce, hT, X', hL, e1, e2, hq, hce, hcv, vx_cls hW₁ hcl, st⟩
end Runs
section Rows
variable {p : Program} {l : Launch} {e : Env} {R : Room} {s : State} {m : MethodId} {args : Array Value} {below : List Frame} {meth : Method} {c : Code} {H : Heap} {locs : List Loc} {cells slots : Nat} {Q : State → Prop}
variable {mc ms : Nat} {free : Addr → Prop} {A0 A1 : Nat → Prop} {H0 : Heap} {a : Array Value} {pc : Nat} {ls : Array Slot} {st0 rest : List Value}
theorem vx_keep {st₀ t T' : State} {L : List Loc} (h0 : st₀.heap = H) (e1 : T'.heap = t.heap) (hS : va_S A0 H0 H locs) (hA : ∀ q, q < H.size → A1 q → A0 q) (hf : ∀ q, free q → A0 q) (hL : ∀ q ∈ L, free q.base) (hF : va_F A1 st₀ t) :
    H.size ≤ T'.heap.size ∧ (∀ q : Nat, q < H.size → ¬ A1 q → T'.heap[q]? = H[q]?) ∧ va_S A0 H0 T'.heap (locs ++ L) := by
  obtain ⟨hz, hk⟩ := hF
  rw [h0] at hz hk
  exact ⟨by rw [e1]; exact hz, fun q h1 h2 => by rw [e1]; exact hk q h1 h2,
    ⟨Nat.le_trans hS.1 (by rw [e1]; exact hz), fun q h1 h2 => by rw [e1, hk q (Nat.lt_of_lt_of_le h1 hS.1) (fun z => h2 (hA q (Nat.lt_of_lt_of_le h1 hS.1) z))]; exact hS.2.1 q h1 h2, fun q hq => by
      rcases List.mem_append.mp hq with h | h
      · exact hS.2.2 q h
      · exact hf _ (hL q h)⟩⟩
theorem vx_calli {S SX : Type} {post : Int32 → S → Prop} {px : SX → Prop} {B : S → State → Prop} {BX : String → SX → State → Prop} {AX : Nat → Prop} (hr : vx_Run p l e R s m args below meth c H locs cells slots mc ms (F0 m pc ls st0) rest (va_Qi post B A1 a) (vx_X px BX AX) free) (hS : va_S A0 H0 H locs) (hA : ∀ q, q < H.size → A1 q → A0 q) (hf : ∀ q, free q → A0 q) (hAX : ∀ q, q < H.size → AX q → A0 q)
    (kx : ∀ (E : String) (ce : Cell) (q9 : Addr) (u : SX) (t : State) (H1 : Heap) (locs1 : List Loc), t.heap = H1 → s.vm.Alike t.vm → px u → BX E u t → H.size ≤ H1.size → (∀ q : Nat, q < H.size → ¬ AX q → H1[q]? = H[q]?) → va_S A0 H0 H1 locs1 → H1[q9]? = some ce → ce.vm = .none → s.vm.findClass E = some ce.cls → vx_W p l e R s m args below meth c H1 locs1 (cells + mc) (slots + ms) Q (F0 m pc ls rest) q9)
    (kk : ∀ (r : Int32) (u : S) (t : State) (H1 : Heap) (locs1 : List Loc), t.heap = H1 → s.vm.Alike t.vm → post r u → B u t → H.size ≤ H1.size → (∀ q : Nat, q < H.size → ¬ A1 q → H1[q]? = H[q]?) → va_S A0 H0 H1 locs1 → W p l e R s m args below meth c H1 locs1 (cells + mc) (slots + ms) Q (F0 m (pc + 3) ls (.int r :: rest))) : W p l e R s m args below meth c H locs cells slots Q (F0 m pc ls st0) := by
  intro T hT X
  rcases hr T hT X with ⟨v, st₀, t, T', L, h0, X', hL, e1, e2, ⟨⟨r, u, hv, hp, hb⟩, hF⟩, st⟩ | ⟨q, st₀, t, T', L, E, ce, h0, X', hL, e1, e2, ⟨u, hp, hb, hF⟩, hce, hcv, hcl, st⟩
  · cases hv
    obtain ⟨k1, k2, k3⟩ := vx_keep h0 e1 hS hA hf hL hF
    obtain ⟨t2, a1, b1⟩ := kk r u t T'.heap (locs ++ L) e1.symm (by rw [← e2]; exact X'.warmed.alike) hp hb k1 k2 k3 T' rfl X'
    exact ⟨t2, st t2 a1, b1⟩
  · obtain ⟨k1, k2, k3⟩ := vx_keep h0 e1 hS hAX hf hL hF
    obtain ⟨t2, a1, b1⟩ := kx E ce q u t T'.heap (locs ++ L) e1.symm (by rw [← e2]; exact X'.warmed.alike) hp hb k1 k2 k3 (by rw [e1]; exact hce) hcv hcl T' rfl X'
    exact ⟨t2, st.trans a1, b1⟩
theorem vx_calll {S SX : Type} {post : Int64 → S → Prop} {px : SX → Prop} {B : S → State → Prop} {BX : String → SX → State → Prop} {AX : Nat → Prop} (hr : vx_Run p l e R s m args below meth c H locs cells slots mc ms (F0 m pc ls st0) rest (va_Ql post B A1 a) (vx_X px BX AX) free) (hS : va_S A0 H0 H locs) (hA : ∀ q, q < H.size → A1 q → A0 q) (hf : ∀ q, free q → A0 q) (hAX : ∀ q, q < H.size → AX q → A0 q)
    (kx : ∀ (E : String) (ce : Cell) (q9 : Addr) (u : SX) (t : State) (H1 : Heap) (locs1 : List Loc), t.heap = H1 → s.vm.Alike t.vm → px u → BX E u t → H.size ≤ H1.size → (∀ q : Nat, q < H.size → ¬ AX q → H1[q]? = H[q]?) → va_S A0 H0 H1 locs1 → H1[q9]? = some ce → ce.vm = .none → s.vm.findClass E = some ce.cls → vx_W p l e R s m args below meth c H1 locs1 (cells + mc) (slots + ms) Q (F0 m pc ls rest) q9)
    (kk : ∀ (r : Int64) (u : S) (t : State) (H1 : Heap) (locs1 : List Loc), t.heap = H1 → s.vm.Alike t.vm → post r u → B u t → H.size ≤ H1.size → (∀ q : Nat, q < H.size → ¬ A1 q → H1[q]? = H[q]?) → va_S A0 H0 H1 locs1 → W p l e R s m args below meth c H1 locs1 (cells + mc) (slots + ms) Q (F0 m (pc + 3) ls (.long r :: rest))) : W p l e R s m args below meth c H locs cells slots Q (F0 m pc ls st0) := by
  intro T hT X
  rcases hr T hT X with ⟨v, st₀, t, T', L, h0, X', hL, e1, e2, ⟨⟨r, u, hv, hp, hb⟩, hF⟩, st⟩ | ⟨q, st₀, t, T', L, E, ce, h0, X', hL, e1, e2, ⟨u, hp, hb, hF⟩, hce, hcv, hcl, st⟩
  · cases hv
    obtain ⟨k1, k2, k3⟩ := vx_keep h0 e1 hS hA hf hL hF
    obtain ⟨t2, a1, b1⟩ := kk r u t T'.heap (locs ++ L) e1.symm (by rw [← e2]; exact X'.warmed.alike) hp hb k1 k2 k3 T' rfl X'
    exact ⟨t2, st t2 a1, b1⟩
  · obtain ⟨k1, k2, k3⟩ := vx_keep h0 e1 hS hAX hf hL hF
    obtain ⟨t2, a1, b1⟩ := kx E ce q u t T'.heap (locs ++ L) e1.symm (by rw [← e2]; exact X'.warmed.alike) hp hb k1 k2 k3 (by rw [e1]; exact hce) hcv hcl T' rfl X'
    exact ⟨t2, st.trans a1, b1⟩
theorem vx_callf {S SX : Type} {post : UInt32 → S → Prop} {px : SX → Prop} {B : S → State → Prop} {BX : String → SX → State → Prop} {AX : Nat → Prop} (hr : vx_Run p l e R s m args below meth c H locs cells slots mc ms (F0 m pc ls st0) rest (va_Qf post B A1 a) (vx_X px BX AX) free) (hS : va_S A0 H0 H locs) (hA : ∀ q, q < H.size → A1 q → A0 q) (hf : ∀ q, free q → A0 q) (hAX : ∀ q, q < H.size → AX q → A0 q)
    (kx : ∀ (E : String) (ce : Cell) (q9 : Addr) (u : SX) (t : State) (H1 : Heap) (locs1 : List Loc), t.heap = H1 → s.vm.Alike t.vm → px u → BX E u t → H.size ≤ H1.size → (∀ q : Nat, q < H.size → ¬ AX q → H1[q]? = H[q]?) → va_S A0 H0 H1 locs1 → H1[q9]? = some ce → ce.vm = .none → s.vm.findClass E = some ce.cls → vx_W p l e R s m args below meth c H1 locs1 (cells + mc) (slots + ms) Q (F0 m pc ls rest) q9)
    (kk : ∀ (r : UInt32) (u : S) (t : State) (H1 : Heap) (locs1 : List Loc), t.heap = H1 → s.vm.Alike t.vm → post r u → B u t → H.size ≤ H1.size → (∀ q : Nat, q < H.size → ¬ A1 q → H1[q]? = H[q]?) → va_S A0 H0 H1 locs1 → W p l e R s m args below meth c H1 locs1 (cells + mc) (slots + ms) Q (F0 m (pc + 3) ls (.float r :: rest))) : W p l e R s m args below meth c H locs cells slots Q (F0 m pc ls st0) := by
  intro T hT X
  rcases hr T hT X with ⟨v, st₀, t, T', L, h0, X', hL, e1, e2, ⟨⟨r, u, hv, hp, hb⟩, hF⟩, st⟩ | ⟨q, st₀, t, T', L, E, ce, h0, X', hL, e1, e2, ⟨u, hp, hb, hF⟩, hce, hcv, hcl, st⟩
  · cases hv
    obtain ⟨k1, k2, k3⟩ := vx_keep h0 e1 hS hA hf hL hF
    obtain ⟨t2, a1, b1⟩ := kk r u t T'.heap (locs ++ L) e1.symm (by rw [← e2]; exact X'.warmed.alike) hp hb k1 k2 k3 T' rfl X'
    exact ⟨t2, st t2 a1, b1⟩
  · obtain ⟨k1, k2, k3⟩ := vx_keep h0 e1 hS hAX hf hL hF
    obtain ⟨t2, a1, b1⟩ := kx E ce q u t T'.heap (locs ++ L) e1.symm (by rw [← e2]; exact X'.warmed.alike) hp hb k1 k2 k3 (by rw [e1]; exact hce) hcv hcl T' rfl X'
    exact ⟨t2, st.trans a1, b1⟩
theorem vx_calld {S SX : Type} {post : UInt64 → S → Prop} {px : SX → Prop} {B : S → State → Prop} {BX : String → SX → State → Prop} {AX : Nat → Prop} (hr : vx_Run p l e R s m args below meth c H locs cells slots mc ms (F0 m pc ls st0) rest (va_Qd post B A1 a) (vx_X px BX AX) free) (hS : va_S A0 H0 H locs) (hA : ∀ q, q < H.size → A1 q → A0 q) (hf : ∀ q, free q → A0 q) (hAX : ∀ q, q < H.size → AX q → A0 q)
    (kx : ∀ (E : String) (ce : Cell) (q9 : Addr) (u : SX) (t : State) (H1 : Heap) (locs1 : List Loc), t.heap = H1 → s.vm.Alike t.vm → px u → BX E u t → H.size ≤ H1.size → (∀ q : Nat, q < H.size → ¬ AX q → H1[q]? = H[q]?) → va_S A0 H0 H1 locs1 → H1[q9]? = some ce → ce.vm = .none → s.vm.findClass E = some ce.cls → vx_W p l e R s m args below meth c H1 locs1 (cells + mc) (slots + ms) Q (F0 m pc ls rest) q9)
    (kk : ∀ (r : UInt64) (u : S) (t : State) (H1 : Heap) (locs1 : List Loc), t.heap = H1 → s.vm.Alike t.vm → post r u → B u t → H.size ≤ H1.size → (∀ q : Nat, q < H.size → ¬ A1 q → H1[q]? = H[q]?) → va_S A0 H0 H1 locs1 → W p l e R s m args below meth c H1 locs1 (cells + mc) (slots + ms) Q (F0 m (pc + 3) ls (.double r :: rest))) : W p l e R s m args below meth c H locs cells slots Q (F0 m pc ls st0) := by
  intro T hT X
  rcases hr T hT X with ⟨v, st₀, t, T', L, h0, X', hL, e1, e2, ⟨⟨r, u, hv, hp, hb⟩, hF⟩, st⟩ | ⟨q, st₀, t, T', L, E, ce, h0, X', hL, e1, e2, ⟨u, hp, hb, hF⟩, hce, hcv, hcl, st⟩
  · cases hv
    obtain ⟨k1, k2, k3⟩ := vx_keep h0 e1 hS hA hf hL hF
    obtain ⟨t2, a1, b1⟩ := kk r u t T'.heap (locs ++ L) e1.symm (by rw [← e2]; exact X'.warmed.alike) hp hb k1 k2 k3 T' rfl X'
    exact ⟨t2, st t2 a1, b1⟩
  · obtain ⟨k1, k2, k3⟩ := vx_keep h0 e1 hS hAX hf hL hF
    obtain ⟨t2, a1, b1⟩ := kx E ce q u t T'.heap (locs ++ L) e1.symm (by rw [← e2]; exact X'.warmed.alike) hp hb k1 k2 k3 (by rw [e1]; exact hce) hcv hcl T' rfl X'
    exact ⟨t2, st.trans a1, b1⟩
theorem vx_callv {S SX : Type} {post : S → Prop} {px : SX → Prop} {B : S → State → Prop} {BX : String → SX → State → Prop} {AX : Nat → Prop} (hr : vx_Run p l e R s m args below meth c H locs cells slots mc ms (F0 m pc ls st0) rest (va_Qv post B A1 a) (vx_X px BX AX) free) (hS : va_S A0 H0 H locs) (hA : ∀ q, q < H.size → A1 q → A0 q) (hf : ∀ q, free q → A0 q) (hAX : ∀ q, q < H.size → AX q → A0 q)
    (kx : ∀ (E : String) (ce : Cell) (q9 : Addr) (u : SX) (t : State) (H1 : Heap) (locs1 : List Loc), t.heap = H1 → s.vm.Alike t.vm → px u → BX E u t → H.size ≤ H1.size → (∀ q : Nat, q < H.size → ¬ AX q → H1[q]? = H[q]?) → va_S A0 H0 H1 locs1 → H1[q9]? = some ce → ce.vm = .none → s.vm.findClass E = some ce.cls → vx_W p l e R s m args below meth c H1 locs1 (cells + mc) (slots + ms) Q (F0 m pc ls rest) q9)
    (kk : ∀ (u : S) (t : State) (H1 : Heap) (locs1 : List Loc), t.heap = H1 → s.vm.Alike t.vm → post u → B u t → H.size ≤ H1.size → (∀ q : Nat, q < H.size → ¬ A1 q → H1[q]? = H[q]?) → va_S A0 H0 H1 locs1 → W p l e R s m args below meth c H1 locs1 (cells + mc) (slots + ms) Q (F0 m (pc + 3) ls (rest))) : W p l e R s m args below meth c H locs cells slots Q (F0 m pc ls st0) := by
  intro T hT X
  rcases hr T hT X with ⟨v, st₀, t, T', L, h0, X', hL, e1, e2, ⟨⟨u, hv, hp, hb⟩, hF⟩, st⟩ | ⟨q, st₀, t, T', L, E, ce, h0, X', hL, e1, e2, ⟨u, hp, hb, hF⟩, hce, hcv, hcl, st⟩
  · cases hv
    obtain ⟨k1, k2, k3⟩ := vx_keep h0 e1 hS hA hf hL hF
    obtain ⟨t2, a1, b1⟩ := kk u t T'.heap (locs ++ L) e1.symm (by rw [← e2]; exact X'.warmed.alike) hp hb k1 k2 k3 T' rfl X'
    exact ⟨t2, st t2 a1, b1⟩
  · obtain ⟨k1, k2, k3⟩ := vx_keep h0 e1 hS hAX hf hL hF
    obtain ⟨t2, a1, b1⟩ := kx E ce q u t T'.heap (locs ++ L) e1.symm (by rw [← e2]; exact X'.warmed.alike) hp hb k1 k2 k3 (by rw [e1]; exact hce) hcv hcl T' rfl X'
    exact ⟨t2, st.trans a1, b1⟩
/-- caught by the row x of this method's table; the rows ahead don't take it -/
theorem vx_catch {own name : String} {E : String} {ce : Cell} {q : Addr} (hown : s.vm.findClass own = some m.cls) (pre : List ExceptionTableEntry) (x : ExceptionTableEntry) (suf : List ExceptionTableEntry) (hsplit : c.exceptionTable.toList = pre ++ x :: suf)
    (hpass : ∀ z ∈ pre, covers z pc = false ∨ (z.catchType ≠ 0 ∧ ∃ nm : String, (Cond.classLink own z.catchType nm).before args s = true ∧ va_Nc E nm s)) (hx : covers x pc = true) (h0 : x.catchType ≠ 0)
    (hlink : (Cond.classLink own x.catchType name).before args s = true) (hcast : (Cond.castable E name).before args s = true) (hcell : H[q]? = some ce) (hv : ce.vm = .none) (hcl : s.vm.findClass E = some ce.cls)
    (kk : W p l e R s m args below meth c H locs cells slots Q (F0 m x.handlerPc ls [.ref q])) : vx_W p l e R s m args below meth c H locs cells slots Q (F0 m pc ls rest) q := by
  intro T hT X
  have hpl : e.platform.magicAccessors = ({} : Platform).magicAccessors := by rw [X.admits.platform]
  obtain ⟨c3, c4, hc3, hc4, hasg⟩ := Cond.castable_spec hcast
  cases Option.some.inj (hc3.symm.trans hcl)
  obtain ⟨c5, hc5, hcl5⟩ := Cond.classLink_spec hown hlink e.platform hpl
  cases Option.some.inj (hc4.symm.trans hc5)
  obtain ⟨vm', X', st⟩ := Jvm.Stand.thenCaughtThrough X q (g := F0 m pc ls rest) rfl (Steps.refl _) (by rw [hT]; exact hcell) (by rw [hv]; rfl) (by obtain ⟨k9, h9, -⟩ := Vm.findClass_spec hcl; exact ⟨k9, h9⟩) pre x suf hsplit
    (fun z hz => by
      rcases hpass z hz with h | ⟨hz0, nm, hl1, hn1⟩
      · exact Or.inl h
      · obtain ⟨c6, hc6, hcl6⟩ := Cond.classLink_spec hown hl1 e.platform hpl
        obtain ⟨a8, b8, h1, h2, h3⟩ := hn1
        cases Option.some.inj (h1.symm.trans hcl)
        cases Option.some.inj (h2.symm.trans hc6)
        exact Or.inr ⟨hz0, _, hcl6, h3⟩) hx (Or.inr ⟨h0, c4, hcl5, hasg⟩)
  obtain ⟨t, a1, b1⟩ := kk (T.setVm vm') hT X'
  exact ⟨t, st.trans a1, b1⟩
end Rows
section Ends
variable {p : Program} {l : Launch} {e : Env} {R : Room} {s : State} {m : MethodId} {args : Array Value} {below : List Frame} {meth : Method} {c : Code} {H : Heap} {locs : List Loc} {cells slots : Nat} {Q : State → Prop}
variable {mc ms : Nat} {free : Addr → Prop} {A0 A1 : Nat → Prop} {H0 : Heap} {a : Array Value} {ls : Array Slot} {st0 rest : List Value}
variable {Qc : Array Value → State → Outcome → State → Prop} {XC : String → State → State → Prop}
/-- what a body that may throw owes at its end -/
def vx_MQ (below : List Frame) (Qc : Array Value → State → Outcome → State → Prop) (XC : String → State → State → Prop) (a : Array Value) (s : State) (mc ms : Nat) (free : Addr → Prop) : State → Prop := fun t =>
  ∃ o, t.status = .running ∧ Ended t below o ∧ vx_Q Qc XC mc ms free a s o t
theorem vx_ret {g : JFrame} {mc ms : Nat} (k : W p l e R s m args below meth c H locs cells slots (MQ below Qc args s mc ms free) g) : W p l e R s m args below meth c H locs cells slots (vx_MQ below Qc XC args s mc ms free) g := by
  intro T hT X
  obtain ⟨t, a1, o, b1, b2, b3, b4⟩ := k T hT X
  exact ⟨t, a1, o, b1, b2, Or.inl ⟨b3, b4⟩⟩
/-- not caught here: it goes on to the caller -/
theorem vx_widen {g : JFrame} {q : Addr} {k n : Nat} (h1 : cells ≤ k) (h2 : slots ≤ n) (kk : vx_W p l e R s m args below meth c H locs k n Q g q) : vx_W p l e R s m args below meth c H locs cells slots Q g q := fun T hT X => kk T hT (stand_widen X h1 h2)
theorem vx_out {pc : Nat} {E : String} {ce : Cell} {q : Addr} {mc ms : Nat} (hout : ∀ x ∈ c.exceptionTable.toList, covers x pc = false) (hlocks : meth.locks = false) (hcell : H[q]? = some ce) (hv : ce.vm = .none) (hcl : s.vm.findClass E = some ce.cls)
    (hx : ∀ t : State, t.heap = H → s.vm.Alike t.vm → XC E s t) (hf : ∀ z ∈ locs, free z.base) (hc : cells ≤ mc) (hs : slots ≤ ms) :
    vx_W p l e R s m args below meth c H locs cells slots (vx_MQ below Qc XC args s mc ms free) (F0 m pc ls rest) q := by
  intro T hT X
  obtain ⟨st1, hrun, hend, hW, hsm⟩ := X.leaveThrown q (g := F0 m pc ls rest) rfl rfl rfl hout hlocks
  have hcell9 : (T.setFrames (.throwing q :: below)).heap[q]? = some ce := by
    show T.heap[q]? = some ce
    rw [hT]; exact hcell
  exact ⟨_, st1, .threw q, hrun, hend, Or.inr ⟨q, rfl, E, ce, locs, hx _ hT hW.alike, hcell9, hv, hcl, hW, hsm.mono hc hs, hf⟩⟩
theorem vx_frame {U : State} {k n : Nat} (h : s.sameButNew ({ U with vm := s.vm } : State) locs k n) : s.heap.size ≤ U.heap.size ∧ ∀ q : Nat, q < s.heap.size → (∀ z ∈ locs, z.base ≠ q) → U.heap[q]? = s.heap[q]? := by
  obtain ⟨-, h2, -, -, -, h6⟩ := h
  refine ⟨h2, fun q hq hz => ?_⟩
  obtain ⟨c9, e1, e2, e3, e4⟩ := h6 q _ (Array.getElem?_eq_getElem hq)
  have hs : c9.slots = (s.heap[q]).slots := Array.ext_getElem? fun i => e4 i fun hm => hz _ hm rfl
  have h9 : c9 = s.heap[q] := by
    rw [hs] at e2
    exact e2
  have e5 : U.heap[q]? = some c9 := e1
  rw [e5, h9, Array.getElem?_eq_getElem hq]
/-- the words of a throw but the four that speak of the heap -/
def vx_no (w : Cond) : Bool := decide (w ≠ .isRef (.static Bundle.tN "UNASSIGNED_STACK" Bundle.steD)) && decide (w ≠ .isRef (.static Bundle.tN "SUPPRESSED_SENTINEL" Bundle.listD)) && decide (w ≠ .laysStatic Bundle.tN "UNASSIGNED_STACK" Bundle.steD) && decide (w ≠ .laysStatic Bundle.tN "SUPPRESSED_SENTINEL" Bundle.listD)
def vx_at0 (own : String) (ic : Nat) (X : String) (names : List String) : List Cond := (Bundle.ownAtoms0 own ic X names).filter vx_no
def vx_atS (own : String) (ic : Nat) (X : String) (names : List String) : List Cond := (Bundle.ownAtoms own ic X names).filter vx_no
/-- a word that the tables alone decide, or a good one -/
def vx_ot (w : Cond) : Bool := w.onTables || goodWord w
theorem vx_ot_at {args a' : Array Value} {s U : State} {w : Cond} (hW : s.WarmedH U.vm) (hvm : s.vm = U.vm) (hg : vx_ot w = true) (h : w.before args s = true) : w.before a' U = true := by
  simp only [vx_ot, Bool.or_eq_true] at hg
  rcases hg with hg | hg
  · exact va_tabs hg hvm h
  · exact word_at hW (good_of_word hg) h
/-- a list's words: the good ones out of the method's own list, the others by premises of their own -/
theorem vx_hat {args : Array Value} {s : State} {L B : List Cond} (h1 : ∀ w ∈ L.filter goodWord, w.before args s = true) (h2 : ∀ w ∈ L.filter (fun w => !goodWord w), w ∈ B) (h3 : ∀ w ∈ B, w.before args s = true) : ∀ w ∈ L, w.before args s = true := by
  intro w hw
  by_cases g : goodWord w = true
  · exact h1 w (List.mem_filter.mpr ⟨hw, g⟩)
  · refine h3 w (h2 w (List.mem_filter.mpr ⟨hw, ?_⟩))
    show (!goodWord w) = true
    cases hgw : goodWord w
    · rfl
    · exact absurd hgw g
theorem vx_c {args : Array Value} {s : State} {w : Cond} {B : List Cond} (h : w.before args s = true) (t : ∀ w ∈ B, w.before args s = true) : ∀ w' ∈ w :: B, w'.before args s = true := fun w' h' => (List.mem_cons.mp h').elim (fun e => by rw [e]; exact h) (t w')
theorem vx_n {args : Array Value} {s : State} : ∀ w ∈ ([] : List Cond), w.before args s = true := fun _ h => nomatch h
theorem vx_own {args : Array Value} {s : State} {L : List Cond} (h1 : ∀ w ∈ L.filter vx_no, w.before args s = true)
    (hU : (Cond.isRef (.static Bundle.tN "UNASSIGNED_STACK" Bundle.steD)).before args s = true) (hN : (Cond.isRef (.static Bundle.tN "SUPPRESSED_SENTINEL" Bundle.listD)).before args s = true)
    (lU : (Cond.laysStatic Bundle.tN "UNASSIGNED_STACK" Bundle.steD).before args s = true) (lN : (Cond.laysStatic Bundle.tN "SUPPRESSED_SENTINEL" Bundle.listD).before args s = true) : ∀ w ∈ L, w.before args s = true := by
  intro w hw
  by_cases e1 : w = .isRef (.static Bundle.tN "UNASSIGNED_STACK" Bundle.steD)
  · rw [e1]; exact hU
  · by_cases e2 : w = .isRef (.static Bundle.tN "SUPPRESSED_SENTINEL" Bundle.listD)
    · rw [e2]; exact hN
    · by_cases e3 : w = .laysStatic Bundle.tN "UNASSIGNED_STACK" Bundle.steD
      · rw [e3]; exact lU
      · by_cases e4 : w = .laysStatic Bundle.tN "SUPPRESSED_SENTINEL" Bundle.listD
        · rw [e4]; exact lN
        · exact h1 w (List.mem_filter.mpr ⟨hw, by unfold vx_no; rw [decide_eq_true e1, decide_eq_true e2, decide_eq_true e3, decide_eq_true e4]; rfl⟩)
/-- where a static field lies, its class's statics cell in H -/
def vx_L (C n d : String) (A : Nat → Prop) (U : State) (H : Heap) : Prop := ∃ (c : ClassId) (k : Class) (i : Nat) (f : Field) (a : Nat) (cell : Cell), U.vm.findClass C = some c ∧ U.fieldFound? C n d = some (c, k, i, f) ∧ f.isStatic = true ∧ k.statics = some a ∧ H[a]? = some cell ∧ cell.vm.isStatics = true ∧ cell.cls = c ∧ f.slot < cell.slots.size ∧ k.staticTypes[f.slot]? = some f.type ∧ ¬ A a
theorem vx_L.moved {C n d : String} {A : Nat → Prop} {u U : State} {H : Heap} (hvm : u.vm.Alike U.vm) (h : vx_L C n d A u H) : vx_L C n d A U H := by
  obtain ⟨c, k, i, f, a, cell, h1, h2, h3, h4, h5, h6, h7, h8, h9, h10⟩ := h
  obtain ⟨k', hi', he⟩ := State.fieldFound?_setVm hvm h2
  exact ⟨c, k', i, f, a, cell, by rw [hvm.findClass]; exact h1, hi', h3, by rw [he]; exact h4, h5, h6, h7, h8, by rw [he]; exact h9, h10⟩
theorem vx_L.kept {C n d : String} {A : Nat → Prop} {U : State} {H H1 : Heap} (h : vx_L C n d A U H) (hq : ∀ a : Nat, a < H.size → ¬ A a → H1[a]? = H[a]?) : vx_L C n d A U H1 := by
  obtain ⟨c, k, i, f, a, cell, h1, h2, h3, h4, h5, h6, h7, h8, h9, h10⟩ := h
  exact ⟨c, k, i, f, a, cell, h1, h2, h3, h4, by rw [hq a (Array.getElem?_eq_some_iff.mp h5).1 h10]; exact h5, h6, h7, h8, h9, h10⟩
theorem vx_L.narrow {C n d : String} {A B : Nat → Prop} {U : State} {H : Heap} (h : vx_L C n d A U H) (hAB : ∀ q, B q → A q) : vx_L C n d B U H := by
  obtain ⟨c, k, i, f, a, cell, h1, h2, h3, h4, h5, h6, h7, h8, h9, h10⟩ := h
  exact ⟨c, k, i, f, a, cell, h1, h2, h3, h4, h5, h6, h7, h8, h9, fun z => h10 (hAB _ z)⟩
theorem vx_L.word {C n d : String} {A : Nat → Prop} {s : State} {args : Array Value} (h : vx_L C n d A s s.heap) : (Cond.laysStatic C n d).before args s = true := by
  obtain ⟨c, k, i, f, a, cell, h1, h2, h3, h4, h5, h6, h7, h8, h9, -⟩ := h
  show (Cond.laysStatic C n d).holds args s none s [] = true
  exact Cond.laysStatic_of h1 h2 h3 h4 h5 h6 h7 h8 h9
/-- .. and what it holds: null or some reference -/
def vx_Zq (C n d : String) (A : Nat → Prop) (U : State) (H : Heap) : Prop := va_Zq C n d A U H ∧ vx_L C n d A U H
theorem vx_Zq.moved {C n d : String} {A : Nat → Prop} {u U : State} {H : Heap} (hvm : u.vm.Alike U.vm) (h : vx_Zq C n d A u H) : vx_Zq C n d A U H := ⟨va_Zq.moved hvm h.1, vx_L.moved hvm h.2⟩
theorem vx_Zq.kept {C n d : String} {A : Nat → Prop} {U : State} {H H1 : Heap} (h : vx_Zq C n d A U H) (hq : ∀ a : Nat, a < H.size → ¬ A a → H1[a]? = H[a]?) : vx_Zq C n d A U H1 := ⟨va_Zq.kept h.1 hq, vx_L.kept h.2 hq⟩
theorem vx_Zq.narrow {C n d : String} {A B : Nat → Prop} {U : State} {H : Heap} (h : vx_Zq C n d A U H) (hAB : ∀ q, B q → A q) : vx_Zq C n d B U H := ⟨va_Zq.narrow h.1 hAB, vx_L.narrow h.2 hAB⟩
theorem vx_Zqof {args : Array Value} {s : State} {C n d : String} {A : Nat → Prop} (hl : (Cond.laysStatic C n d).before args s = true) (hini : (Cond.initialized C).before args s = true) (h : (Cond.isRef (.static C n d)).before args s = true) (hA : ∀ a : Nat, a < s.heap.size → ¬ A a) : vx_Zq C n d A s s.heap := by
  refine ⟨va_Zqof hl hini h hA, ?_⟩
  obtain ⟨c, k, i, f, a, cell, h1, h2, h3, h4, h5, h6, h7, h8, h9⟩ := Cond.laysStatic_spec hl
  exact ⟨c, k, i, f, a, cell, h1, h2, h3, h4, h5, h6, h7, h8, h9, hA a (Array.getElem?_eq_some_iff.mp h5).1⟩
theorem vx_isRef {C n d : String} {v : Value} {A : Nat → Prop} {s : State} {args : Array Value} (h : va_Z C n d v A s s.heap) (hv : v.isRef = true) : (Cond.isRef (.static C n d)).before args s = true := by
  obtain ⟨cf, kf, fi, f, a, cell, h1, h2, h3, h4, h5, h6, h7, -⟩ := h
  have he : (Term.static C n d).eval args s none [] s = some v := by
    simp [Term.eval, State.fieldNamed?, h1, h2, h4, h5, h6, h7]
  simp only [Cond.before, Cond.holds, Cond.value, he]
  cases v <;> simp_all [Value.isRef]
theorem vx_isRefq {C n d : String} {A : Nat → Prop} {s : State} {args : Array Value} (h : va_Zq C n d A s s.heap) : (Cond.isRef (.static C n d)).before args s = true := by
  rcases h with h | ⟨t, h⟩
  · exact vx_isRef h rfl
  · exact vx_isRef h rfl
/-- the same frame, seen from here: as if the method were called anew in this heap -/
theorem vx_rebase {T : State} (X : Stand p l e R s m args below meth c T locs cells slots) {R' : Room} (hf : R'.frames ≤ R.frames) (hl : R'.locals ≤ R.locals) (hc : cells + R'.cells ≤ R.cells) (hs : slots + R'.slots ≤ R.slots) :
    Stand p l e R' ((T.setVm s.vm).setFrames (.invoking m args :: below)) m args below meth c T [] 0 0 := by
  have htop : (T.setVm s.vm).topJava?.isSome := X.here.top
  have hF : ((T.setVm s.vm).setFrames (.invoking m args :: below)).frames = .invoking m args :: below := State.frames_setFrames _ (State.cur_lt_of_top htop)
  obtain ⟨g₀, hg0⟩ := Option.isSome_iff_exists.mp htop
  obtain ⟨r, hr⟩ := State.topJava?_eq_some.mp hg0
  have hl9 : e.platform.stackLimits (T.setVm s.vm).me = e.platform.stackLimits s.me := X.limits
  have hb9 : (T.setVm s.vm).me.stackBytes = s.me.stackBytes := X.bytes
  refine ⟨X.admits, X.cas, X.clock, hF, ?_, X.hears, X.method, X.code, X.here, X.tail, X.warmed, ?_, ?_, ?_⟩
  · have h := X.room
    have hU : ((T.setVm s.vm).setFrames (.invoking m args :: below)).localsInUse = s.localsInUse := by
      rw [State.localsInUse_invoking hF (meth := meth) (c := c) X.method X.code, State.localsInUse_invoking X.frames X.method X.code]
    simp only [State.hasRoom, Bool.and_eq_true, decide_eq_true_eq] at h ⊢
    obtain ⟨⟨⟨⟨h1, h2, h3, h4, h5, h6⟩, h7⟩, h8⟩, h9⟩ := h
    rw [X.frames, List.length_cons] at h2 h3
    have q1 := X.heapSize
    have q2 := X.used
    simp only [hF, hU, List.length_cons, State.stackLimits_setFrames, State.stackBytes_setFrames, hl9, hb9]
    refine ⟨⟨⟨⟨by omega, by omega, by omega, by omega, by omega, h6⟩, ?_⟩, ?_⟩, X.book⟩
    · show T.heap.size + R'.cells ≤ e.platform.maxCells
      omega
    · show T.slotsUsed + R'.slots ≤ e.platform.maxSlots
      omega
  · rw [State.stackLimits_setFrames]; rfl
  · rw [State.stackBytes_setFrames]; rfl
  · refine ⟨?_, Nat.le_refl _, Nat.le_refl _, ?_, ?_, fun a c9 h9 => ⟨c9, h9, rfl, rfl, fun _ _ => rfl⟩⟩
    · obtain ⟨t, ht, -⟩ := State.frames_cons hr
      show T.setVm s.vm = { ((T.setVm s.vm).setFrames (.invoking m args :: below)).setFrames (T.setVm s.vm).frames with heap := T.heap, slotsUsed := T.slotsUsed }
      rw [State.setFrames_setFrames, State.setFrames_self ht]
      rfl
    · show T.slotsUsed = T.slotsUsed + ((T.heap.toList.drop T.heap.size).map (·.slots.size)).sum
      rw [List.drop_eq_nil_of_le (Nat.le_of_eq Array.length_toList)]
      rfl
    · show ((T.heap.toList.drop T.heap.size).map (·.slots.size)).sum ≤ 0
      rw [List.drop_eq_nil_of_le (Nat.le_of_eq Array.length_toList)]
      exact Nat.le_refl _
/-- 'throw new E()': new; dup; invokespecial; athrow -/
theorem vx_throw0 {cc : ByteArray} {pc : Nat} (hexec : p.tables.exec = Jvm.exec) (hb : c.code = cc) (hl : l.stackTraces = false) {own cls : String} {names : List String} {ik ic mc ms : Nat} {A : Nat → Prop}
    (hown : s.vm.findClass own = some m.cls) (hcls : Bundle.fit cls = true) (hnames : ∀ n ∈ names, Bundle.fit n = true)
    (hk : (Cond.classLink own ik cls).before args s = true) (hini : (Cond.initialized cls).before args s = true) (hat : ∀ w ∈ vx_at0 own ic cls names, w.before args s = true)
    (hgood : ∀ w ∈ Cond.classLink own ik cls :: Cond.initialized cls :: vx_at0 own ic cls names, vx_ot w = true)
    (hU : vx_Zq Bundle.tN "UNASSIGNED_STACK" Bundle.steD A s s.heap) (hN : vx_Zq Bundle.tN "SUPPRESSED_SENTINEL" Bundle.listD A s s.heap) (hS : va_S A s.heap H locs) (hsize : ls.size = c.maxLocals)
    (d0 : decode cc pc = .ok (.new ik, 3)) (d3 : decode cc (pc + 3) = .ok (.dup, 1)) (d4 : decode cc (pc + 4) = .ok (.invokespecial ic, 3)) (d7 : decode cc (pc + 7) = .ok (.athrow, 1))
    (hout : ∀ x ∈ c.exceptionTable.toList, covers x (pc + 7) = false)
    (hRframes : names.length + 3 < R.frames) (hRlocals : (rest.map fun v => v.category).sum + (13 * (names.length + 1) + 42) ≤ R.locals) (hRcells : cells + 1 ≤ R.cells) (hRslots : slots + 6 ≤ R.slots) (hlocks : meth.locks = false)
    (hx : ∀ t : State, s.vm.Alike t.vm → H.size ≤ t.heap.size → (∀ q : Nat, q < H.size → t.heap[q]? = H[q]?) → XC cls s t)
    (hf : ∀ z ∈ locs, free z.base) (hc : cells + 1 ≤ mc) (hs : slots + 6 ≤ ms) :
    W p l e R s m args below meth c H locs cells slots (vx_MQ below Qc XC args s mc ms free) (F0 m pc ls rest) := by
  intro T hT X
  have htr : e.platform.stackTraces = false := (show e.platform.stackTraces = l.stackTraces by rw [X.admits.platform]).trans hl
  have Y := vx_rebase X (R' := { frames := R.frames, locals := R.locals, cells := 1, slots := 6 }) (Nat.le_refl _) (Nat.le_refl _) hRcells hRslots
  obtain ⟨s', hA⟩ : ∃ z, z = (T.setVm s.vm).setFrames (.invoking m args :: below) := ⟨_, rfl⟩
  rw [← hA] at Y
  have hvm : s'.vm = s.vm := by rw [hA]; rfl
  have hhp : s'.heap = H := by rw [hA]; exact hT
  have hW0 : s.WarmedH s'.vm := by rw [hvm]; exact State.WarmedH.refl s
  have hat' : ∀ w ∈ vx_at0 own ic cls names, w.before args s' = true := fun w hw => vx_ot_at hW0 hvm.symm (hgood w (List.mem_cons_of_mem _ (List.mem_cons_of_mem _ hw))) (hat w hw)
  have hk' : (Cond.classLink own ik cls).before args s' = true := vx_ot_at hW0 hvm.symm (hgood _ List.mem_cons_self) hk
  have hini' : (Cond.initialized cls).before args s' = true := vx_ot_at hW0 hvm.symm (hgood _ (List.mem_cons_of_mem _ List.mem_cons_self)) hini
  have hU' : vx_Zq Bundle.tN "UNASSIGNED_STACK" Bundle.steD A s' s'.heap := by rw [hhp]; exact vx_Zq.moved hW0.alike (hU.kept hS.2.1)
  have hN' : vx_Zq Bundle.tN "SUPPRESSED_SENTINEL" Bundle.listD A s' s'.heap := by rw [hhp]; exact vx_Zq.moved hW0.alike (hN.kept hS.2.1)
  have h : ∀ w ∈ Bundle.ownAtoms0 own ic cls names, w.before args s' = true := vx_own hat' (vx_isRefq hU'.1) (vx_isRefq hN'.1) hU'.2.word hN'.2.word
  have hown' : s'.vm.findClass own = some m.cls := by rw [hvm]; exact hown
  have hins : (Cond.instantiable cls 6).before args s' = true := h _ (by simp [Bundle.ownAtoms0])
  obtain ⟨vm₁, cX, kX, hfX, hkX, -, -, X₁, st1⟩ := Y.newCold hexec (own := own) (C := cls) (index := ik) (n := 6) hown' hk' hins hini'
    (g := F0 m pc ls rest) rfl (by rw [hb]; exact d0) (Nat.le_refl _) (Nat.le_refl _)
  generalize hT1 : (T.setVm vm₁).pushCell { cls := cX, slots := kX.instanceTypes.map defaultValue, vm := .none } = T1 at X₁ st1
  have hcat : (Value.ref T.heap.size).category = 1 := rfl
  have hcellA : T1.heap[T.heap.size]? = some (freshCell cX kX) := by rw [← hT1]; exact State.heap_pushCell_size _ _
  have d3' : decode c.code (pc + 3) = .ok (.dup, 1) := by rw [hb]; exact d3
  obtain ⟨U, hsteps, hrun, hend, hW, hsame, ce, hce, hO⟩ := X₁.ctorThrow0 hexec htr (own := own) (cls := cls) (names := names) (ic := ic) hown' hcls hnames h (fun x hx => nomatch hx) hfX hkX hcellA (by rw [hhp, hT]; exact Nat.le_refl _)
    (g := { method := m, pc := pc + 4, locals := ls, stack := .ref T.heap.size :: .ref T.heap.size :: rest, locked := none }) rfl hsize rfl rfl (rest := rest) rfl
    (by rw [hb]; exact d4) (by rw [hb]; exact d7) hout hRframes (by simp only [List.map_cons, List.sum_cons, hcat]; omega) hlocks
  obtain ⟨f1, f2⟩ := vx_frame hsame
  rw [hhp] at f1 f2
  have hWs : s.WarmedH U.vm := State.WarmedH.trans hW0 hW
  have hcl : s.vm.findClass cls = some ce.cls := by
    have h9 := hO.cls
    rw [hvm] at h9
    exact h9
  have hall : s.sameButNew ({ U with vm := s.vm } : State) locs mc ms := by
    subst hA
    obtain ⟨e1, e2⟩ := hsame
    rw [State.setFrames_setFrames] at e1
    have h2 : (T.setVm s.vm).sameButNew ({ U with vm := s.vm } : State) [] (0 + 1) (0 + 6) := ⟨e1, e2⟩
    have h3 := X.same.trans h2
    rw [List.append_nil] at h3
    exact h3.mono hc hs
  refine ⟨U, ?_, .threw T.heap.size, hrun, hend, Or.inr ⟨T.heap.size, rfl, cls, ce, locs, hx U hWs.alike f1 (fun q hq => f2 q hq (fun z hz => nomatch hz)), hce, hO.vm, hcl, hWs, hall, hf⟩⟩
  refine st1 _ ?_
  show Steps p.tables e below (T1.setTop { method := m, pc := pc + 3, locals := ls, stack := .ref T.heap.size :: rest, locked := none }) _
  jvm_step X₁.here [X₁.here.top, hexec, d3', Value.category]
  exact hsteps
/-- 'throw new E("text")': new; dup; ldc; invokespecial; athrow -/
theorem vx_throwS {cc : ByteArray} {pc : Nat} (hexec : p.tables.exec = Jvm.exec) (hb : c.code = cc) (hl : l.stackTraces = false) {own cls text : String} {names : List String} {ik is ic mc ms sa : Nat} {A : Nat → Prop}
    (hown : s.vm.findClass own = some m.cls) (hcls : Bundle.fit cls = true) (hnames : ∀ n ∈ names, Bundle.fit n = true)
    (hk : (Cond.classLink own ik cls).before args s = true) (hini : (Cond.initialized cls).before args s = true) (hstr : vk_R own is text sa s) (hat : ∀ w ∈ vx_atS own ic cls names, w.before args s = true)
    (hgood : ∀ w ∈ Cond.classLink own ik cls :: Cond.initialized cls :: vx_atS own ic cls names, vx_ot w = true)
    (hU : vx_Zq Bundle.tN "UNASSIGNED_STACK" Bundle.steD A s s.heap) (hN : vx_Zq Bundle.tN "SUPPRESSED_SENTINEL" Bundle.listD A s s.heap) (hS : va_S A s.heap H locs) (hsize : ls.size = c.maxLocals)
    (d0 : decode cc pc = .ok (.new ik, 3)) (d3 : decode cc (pc + 3) = .ok (.dup, 1)) (d4 : decode cc (pc + 4) = .ok (.ldc is, 2)) (d6 : decode cc (pc + 6) = .ok (.invokespecial ic, 3)) (d9 : decode cc (pc + 9) = .ok (.athrow, 1))
    (hout : ∀ x ∈ c.exceptionTable.toList, covers x (pc + 9) = false)
    (hRframes : names.length + 3 < R.frames) (hRlocals : (rest.map fun v => v.category).sum + (13 * (names.length + 1) + 43) ≤ R.locals) (hRcells : cells + 1 ≤ R.cells) (hRslots : slots + 6 ≤ R.slots) (hlocks : meth.locks = false)
    (hx : ∀ t : State, s.vm.Alike t.vm → H.size ≤ t.heap.size → (∀ q : Nat, q < H.size → t.heap[q]? = H[q]?) → XC cls s t)
    (hf : ∀ z ∈ locs, free z.base) (hc : cells + 1 ≤ mc) (hs : slots + 6 ≤ ms) :
    W p l e R s m args below meth c H locs cells slots (vx_MQ below Qc XC args s mc ms free) (F0 m pc ls rest) := by
  intro T hT X
  have htr : e.platform.stackTraces = false := (show e.platform.stackTraces = l.stackTraces by rw [X.admits.platform]).trans hl
  have Y := vx_rebase X (R' := { frames := R.frames, locals := R.locals, cells := 1, slots := 6 }) (Nat.le_refl _) (Nat.le_refl _) hRcells hRslots
  obtain ⟨s', hA⟩ : ∃ z, z = (T.setVm s.vm).setFrames (.invoking m args :: below) := ⟨_, rfl⟩
  rw [← hA] at Y
  have hvm : s'.vm = s.vm := by rw [hA]; rfl
  have hhp : s'.heap = H := by rw [hA]; exact hT
  have hW0 : s.WarmedH s'.vm := by rw [hvm]; exact State.WarmedH.refl s
  have hat' : ∀ w ∈ vx_atS own ic cls names, w.before args s' = true := fun w hw => vx_ot_at hW0 hvm.symm (hgood w (List.mem_cons_of_mem _ (List.mem_cons_of_mem _ hw))) (hat w hw)
  have hk' : (Cond.classLink own ik cls).before args s' = true := vx_ot_at hW0 hvm.symm (hgood _ List.mem_cons_self) hk
  have hini' : (Cond.initialized cls).before args s' = true := vx_ot_at hW0 hvm.symm (hgood _ (List.mem_cons_of_mem _ List.mem_cons_self)) hini
  have hU' : vx_Zq Bundle.tN "UNASSIGNED_STACK" Bundle.steD A s' s'.heap := by rw [hhp]; exact vx_Zq.moved hW0.alike (hU.kept hS.2.1)
  have hN' : vx_Zq Bundle.tN "SUPPRESSED_SENTINEL" Bundle.listD A s' s'.heap := by rw [hhp]; exact vx_Zq.moved hW0.alike (hN.kept hS.2.1)
  have h : ∀ w ∈ Bundle.ownAtoms own ic cls names, w.before args s' = true := vx_own hat' (vx_isRefq hU'.1) (vx_isRefq hN'.1) hU'.2.word hN'.2.word
  have hown' : s'.vm.findClass own = some m.cls := by rw [hvm]; exact hown
  have hins : (Cond.instantiable cls 6).before args s' = true := h _ (by simp [Bundle.ownAtoms])
  obtain ⟨vm₁, cX, kX, hfX, hkX, -, -, X₁, st1⟩ := Y.newCold hexec (own := own) (C := cls) (index := ik) (n := 6) hown' hk' hins hini'
    (g := F0 m pc ls rest) rfl (by rw [hb]; exact d0) (Nat.le_refl _) (Nat.le_refl _)
  generalize hT1 : (T.setVm vm₁).pushCell { cls := cX, slots := kX.instanceTypes.map defaultValue, vm := .none } = T1 at X₁ st1
  have hcat : (Value.ref T.heap.size).category = 1 := rfl
  have hcellA : T1.heap[T.heap.size]? = some (freshCell cX kX) := by rw [← hT1]; exact State.heap_pushCell_size _ _
  have d3' : decode c.code (pc + 3) = .ok (.dup, 1) := by rw [hb]; exact d3
  have d4' : decode c.code (pc + 4) = .ok (.ldc is, 2) := by rw [hb]; exact d4
  have hstr' : vk_R own is text sa s' := vk_R.warm hW0 hstr
  obtain ⟨U, hsteps, hrun, hend, hW, hsame, ce, hce, hO⟩ := X₁.ctorThrowS hexec htr (own := own) (cls := cls) (names := names) (ic := ic) hown' hcls hnames h (fun x hx => nomatch hx) hfX hkX hcellA (by rw [hhp, hT]; exact Nat.le_refl _) (msg := .ref sa) rfl
    (g := { method := m, pc := pc + 6, locals := ls, stack := .ref sa :: .ref T.heap.size :: .ref T.heap.size :: rest, locked := none }) rfl hsize rfl rfl (rest := rest) rfl
    (by rw [hb]; exact d6) (by rw [hb]; exact d9) hout hRframes (by simp only [List.map_cons, List.sum_cons, hcat]; omega) hlocks
  obtain ⟨f1, f2⟩ := vx_frame hsame
  rw [hhp] at f1 f2
  have hWs : s.WarmedH U.vm := State.WarmedH.trans hW0 hW
  have hcl : s.vm.findClass cls = some ce.cls := by
    have h9 := hO.cls
    rw [hvm] at h9
    exact h9
  have hall : s.sameButNew ({ U with vm := s.vm } : State) locs mc ms := by
    subst hA
    obtain ⟨e1, e2⟩ := hsame
    rw [State.setFrames_setFrames] at e1
    have h2 : (T.setVm s.vm).sameButNew ({ U with vm := s.vm } : State) [] (0 + 1) (0 + 6) := ⟨e1, e2⟩
    have h3 := X.same.trans h2
    rw [List.append_nil] at h3
    exact h3.mono hc hs
  refine ⟨U, ?_, .threw T.heap.size, hrun, hend, Or.inr ⟨T.heap.size, rfl, cls, ce, locs, hx U hWs.alike f1 (fun q hq => f2 q hq (fun z hz => nomatch hz)), hce, hO.vm, hcl, hWs, hall, hf⟩⟩
  refine st1 _ ?_
  show Steps p.tables e below (T1.setTop { method := m, pc := pc + 3, locals := ls, stack := .ref T.heap.size :: rest, locked := none }) _
  jvm_step X₁.here [X₁.here.top, hexec, d3', Value.category]
  exact X₁.ldcString hexec (own := own) (text := text) (index := is) (a := sa) hown' hstr'.1 hstr'.2
    (g := { method := m, pc := pc + 4, locals := ls, stack := .ref T.heap.size :: .ref T.heap.size :: rest, locked := none }) rfl d4' _ hsteps
/-- 'throw new E("text")', the text by a wide index -/
theorem vx_throwSW {cc : ByteArray} {pc : Nat} (hexec : p.tables.exec = Jvm.exec) (hb : c.code = cc) (hl : l.stackTraces = false) {own cls text : String} {names : List String} {ik is ic mc ms sa : Nat} {A : Nat → Prop}
    (hown : s.vm.findClass own = some m.cls) (hcls : Bundle.fit cls = true) (hnames : ∀ n ∈ names, Bundle.fit n = true)
    (hk : (Cond.classLink own ik cls).before args s = true) (hini : (Cond.initialized cls).before args s = true) (hstr : vk_R own is text sa s) (hat : ∀ w ∈ vx_atS own ic cls names, w.before args s = true)
    (hgood : ∀ w ∈ Cond.classLink own ik cls :: Cond.initialized cls :: vx_atS own ic cls names, vx_ot w = true)
    (hU : vx_Zq Bundle.tN "UNASSIGNED_STACK" Bundle.steD A s s.heap) (hN : vx_Zq Bundle.tN "SUPPRESSED_SENTINEL" Bundle.listD A s s.heap) (hS : va_S A s.heap H locs) (hsize : ls.size = c.maxLocals)
    (d0 : decode cc pc = .ok (.new ik, 3)) (d3 : decode cc (pc + 3) = .ok (.dup, 1)) (d4 : decode cc (pc + 4) = .ok (.ldc_w is, 3)) (d7 : decode cc (pc + 7) = .ok (.invokespecial ic, 3)) (d10 : decode cc (pc + 10) = .ok (.athrow, 1))
    (hout : ∀ x ∈ c.exceptionTable.toList, covers x (pc + 10) = false)
    (hRframes : names.length + 3 < R.frames) (hRlocals : (rest.map fun v => v.category).sum + (13 * (names.length + 1) + 43) ≤ R.locals) (hRcells : cells + 1 ≤ R.cells) (hRslots : slots + 6 ≤ R.slots) (hlocks : meth.locks = false)
    (hx : ∀ t : State, s.vm.Alike t.vm → H.size ≤ t.heap.size → (∀ q : Nat, q < H.size → t.heap[q]? = H[q]?) → XC cls s t)
    (hf : ∀ z ∈ locs, free z.base) (hc : cells + 1 ≤ mc) (hs : slots + 6 ≤ ms) :
    W p l e R s m args below meth c H locs cells slots (vx_MQ below Qc XC args s mc ms free) (F0 m pc ls rest) := by
  intro T hT X
  have htr : e.platform.stackTraces = false := (show e.platform.stackTraces = l.stackTraces by rw [X.admits.platform]).trans hl
  have Y := vx_rebase X (R' := { frames := R.frames, locals := R.locals, cells := 1, slots := 6 }) (Nat.le_refl _) (Nat.le_refl _) hRcells hRslots
  obtain ⟨s', hA⟩ : ∃ z, z = (T.setVm s.vm).setFrames (.invoking m args :: below) := ⟨_, rfl⟩
  rw [← hA] at Y
  have hvm : s'.vm = s.vm := by rw [hA]; rfl
  have hhp : s'.heap = H := by rw [hA]; exact hT
  have hW0 : s.WarmedH s'.vm := by rw [hvm]; exact State.WarmedH.refl s
  have hat' : ∀ w ∈ vx_atS own ic cls names, w.before args s' = true := fun w hw => vx_ot_at hW0 hvm.symm (hgood w (List.mem_cons_of_mem _ (List.mem_cons_of_mem _ hw))) (hat w hw)
  have hk' : (Cond.classLink own ik cls).before args s' = true := vx_ot_at hW0 hvm.symm (hgood _ List.mem_cons_self) hk
  have hini' : (Cond.initialized cls).before args s' = true := vx_ot_at hW0 hvm.symm (hgood _ (List.mem_cons_of_mem _ List.mem_cons_self)) hini
  have hU' : vx_Zq Bundle.tN "UNASSIGNED_STACK" Bundle.steD A s' s'.heap := by rw [hhp]; exact vx_Zq.moved hW0.alike (hU.kept hS.2.1)
  have hN' : vx_Zq Bundle.tN "SUPPRESSED_SENTINEL" Bundle.listD A s' s'.heap := by rw [hhp]; exact vx_Zq.moved hW0.alike (hN.kept hS.2.1)
  have h : ∀ w ∈ Bundle.ownAtoms own ic cls names, w.before args s' = true := vx_own hat' (vx_isRefq hU'.1) (vx_isRefq hN'.1) hU'.2.word hN'.2.word
  have hown' : s'.vm.findClass own = some m.cls := by rw [hvm]; exact hown
  have hins : (Cond.instantiable cls 6).before args s' = true := h _ (by simp [Bundle.ownAtoms])
  obtain ⟨vm₁, cX, kX, hfX, hkX, -, -, X₁, st1⟩ := Y.newCold hexec (own := own) (C := cls) (index := ik) (n := 6) hown' hk' hins hini'
    (g := F0 m pc ls rest) rfl (by rw [hb]; exact d0) (Nat.le_refl _) (Nat.le_refl _)
  generalize hT1 : (T.setVm vm₁).pushCell { cls := cX, slots := kX.instanceTypes.map defaultValue, vm := .none } = T1 at X₁ st1
  have hcat : (Value.ref T.heap.size).category = 1 := rfl
  have hcellA : T1.heap[T.heap.size]? = some (freshCell cX kX) := by rw [← hT1]; exact State.heap_pushCell_size _ _
  have d3' : decode c.code (pc + 3) = .ok (.dup, 1) := by rw [hb]; exact d3
  have d4' : decode c.code (pc + 4) = .ok (.ldc_w is, 3) := by rw [hb]; exact d4
  have hstr' : vk_R own is text sa s' := vk_R.warm hW0 hstr
  obtain ⟨U, hsteps, hrun, hend, hW, hsame, ce, hce, hO⟩ := X₁.ctorThrowS hexec htr (own := own) (cls := cls) (names := names) (ic := ic) hown' hcls hnames h (fun x hx => nomatch hx) hfX hkX hcellA (by rw [hhp, hT]; exact Nat.le_refl _) (msg := .ref sa) rfl
    (g := { method := m, pc := pc + 7, locals := ls, stack := .ref sa :: .ref T.heap.size :: .ref T.heap.size :: rest, locked := none }) rfl hsize rfl rfl (rest := rest) rfl
    (by rw [hb]; exact d7) (by rw [hb]; exact d10) hout hRframes (by simp only [List.map_cons, List.sum_cons, hcat]; omega) hlocks
  obtain ⟨f1, f2⟩ := vx_frame hsame
  rw [hhp] at f1 f2
  have hWs : s.WarmedH U.vm := State.WarmedH.trans hW0 hW
  have hcl : s.vm.findClass cls = some ce.cls := by
    have h9 := hO.cls
    rw [hvm] at h9
    exact h9
  have hall : s.sameButNew ({ U with vm := s.vm } : State) locs mc ms := by
    subst hA
    obtain ⟨e1, e2⟩ := hsame
    rw [State.setFrames_setFrames] at e1
    have h2 : (T.setVm s.vm).sameButNew ({ U with vm := s.vm } : State) [] (0 + 1) (0 + 6) := ⟨e1, e2⟩
    have h3 := X.same.trans h2
    rw [List.append_nil] at h3
    exact h3.mono hc hs
  refine ⟨U, ?_, .threw T.heap.size, hrun, hend, Or.inr ⟨T.heap.size, rfl, cls, ce, locs, hx U hWs.alike f1 (fun q hq => f2 q hq (fun z hz => nomatch hz)), hce, hO.vm, hcl, hWs, hall, hf⟩⟩
  refine st1 _ ?_
  show Steps p.tables e below (T1.setTop { method := m, pc := pc + 3, locals := ls, stack := .ref T.heap.size :: rest, locked := none }) _
  jvm_step X₁.here [X₁.here.top, hexec, d3', Value.category]
  exact X₁.ldcStringW hexec (own := own) (text := text) (index := is) (a := sa) hown' hstr'.1 hstr'.2
    (g := { method := m, pc := pc + 4, locals := ls, stack := .ref T.heap.size :: .ref T.heap.size :: rest, locked := none }) rfl d4' _ hsteps
end Ends
section Bodies
variable {l : Launch}
theorem vx_ofW {y : MethodName} {ws ws' : List Cond} {rm : Room} {Pc : Array Value → State → Prop} {Qc : Array Value → State → Outcome → State → Prop} {XC : String → State → State → Prop} {mc ms : Nat} {free : Addr → Prop} {cc : ByteArray} {maxL : Nat} {ret : Option FieldType}
    (hy : plainName y.cls = true) (hw : ws = Cond.code y cc maxL ret :: ws')
    (body : ∀ p e s m args below meth c s₁, BodyLoose p l y (headSpec ws rm) cc maxL ret e s m args below meth c s₁ → c.maxLocals = maxL → (∀ x ∈ c.exceptionTable.toList, False) → Pc args s →
      W p l e (headSpec ws rm).room s m args below meth c s.heap [] 0 0 (vx_MQ below Qc XC args s mc ms free) (entryFrame m args maxL)) : vx_Met l y ws rm Pc Qc XC mc ms free := by
  refine MetFree.of_bodyS (code := cc) (maxLocals := maxL) (ret := ret) hy ?_ ?_
  · intro args s m h hn
    obtain ⟨meth, c, h1, h2, h3, h4, h5, h6, -, -⟩ := Cond.code_spec hn (atoms_spec (ws := ws) h _ (by rw [hw]; exact List.mem_cons_self))
    exact ⟨meth, c, h1, h2, h3, h4, h5, h6⟩
  · intro p e s m args below meth c s₁ B hml hP _
    have hh0 : s₁.heap = s.heap := by rw [B.state]; rfl
    have ht : ∀ x ∈ c.exceptionTable.toList, False := by
      obtain ⟨meth9, c9, h1, h2, -, -, -, -, h7, -⟩ := Cond.code_spec B.named (atoms_spec (ws := ws) B.pre _ (by rw [hw]; exact List.mem_cons_self))
      cases Option.some.inj (h1.symm.trans B.method)
      cases Option.some.inj (h2.symm.trans (Stand.of_body B).code)
      intro x hx
      rw [Array.isEmpty_iff.mp h7] at hx
      cases hx
    obtain ⟨t, a1, o, b1, b2, b3⟩ := body p e s m args below meth c s₁ B hml ht hP s₁ hh0 (Stand.of_body B)
    exact ⟨t, o, a1, b1, b2, b3⟩
/-- the table of a body with handlers -/
theorem vx_table {p : Program} {x y : MethodName} {S : Spec} {cc bytes : ByteArray} {maxL maxL' : Nat} {ret ret' : Option FieldType} {e : Env} {s s₁ : State} {m : MethodId} {args : Array Value} {below : List Frame} {meth : Method} {c : Code} {hh : List (Nat × Nat × Nat × Nat)}
    (B : BodyLoose p l y S cc maxL ret e s m args below meth c s₁) (h : (Cond.codeWith y bytes maxL' ret' hh).before args s = true) : c.exceptionTable.toList = tableOf hh := by
  obtain ⟨m9, meth9, c9, hn9, h1, h2, -, -, h6, -⟩ := Cond.codeWith_spec h
  cases Option.some.inj (hn9.symm.trans B.named)
  cases Option.some.inj (h1.symm.trans B.method)
  cases Option.some.inj (h2.symm.trans (Stand.of_body B).code)
  rw [← h6, table_eq]
end Bodies
end VXA
/-! ===== END ===== -/
/-! ===== BEGIN a static call of a method with an exception table ===== -/
section VXS
variable {p : Program} {l : Launch} {e : Env} {R : Room} {s : State} {m : MethodId} {args : Array Value} {below : List Frame} {meth : Method} {c : Code} {T : State} {H : Heap} {locs : List Loc} {cells slots : Nat}
abbrev vx_CSW (R : Room) (s : State) (args : Array Value) (own : String) (index : Nat) (y : MethodName) (bytes : ByteArray) (maxL : Nat) (ret : Option FieldType) (hh : List (Nat × Nat × Nat × Nat)) (ws : List Cond) (rm : Room) (mc ms n : Nat) : Prop :=
  (rm.cells = mc ∧ rm.slots = ms ∧ rm.frames + 1 ≤ R.frames ∧ 8 + (maxL + 11) + rm.locals ≤ R.locals ∧ (∀ w ∈ ws, ∀ (a' : Array Value) (U : State), s.WarmedH U.vm → w.before a' U = true) ∧ Cond.codeWith y bytes maxL ret hh ∈ ws) ∧
  (Cond.codeWith y bytes maxL ret hh).before args s = true ∧ (Cond.initialized y.cls).before args s = true ∧ (y.cls ≠ "java/lang/invoke/MethodHandle" ∧ y.cls ≠ "java/lang/invoke/VarHandle") ∧
  (∀ sig, parseMethodDescriptor y.desc = some sig → n = sig.parameters.length) ∧ (Cond.methodLink own index y).before args s = true ∧ (Cond.static y).before args s = true
theorem vx_cwSW {own : String} {index maxL mc ms : Nat} {y : MethodName} {bytes : ByteArray} {ret : Option FieldType} {hh : List (Nat × Nat × Nat × Nat)} {Ts ws ws' : List Cond} {rm : Room} (n : Nat) (ht : ∀ w ∈ Ts, w.before args s = true) (hT : GoodIn Ts (va_wsS own index y ws)) (hw : ws = Cond.codeWith y bytes maxL ret hh :: ws') (hrc : rm.cells = mc) (hrs : rm.slots = ms)
    (hd : y.cls ≠ "java/lang/invoke/MethodHandle" ∧ y.cls ≠ "java/lang/invoke/VarHandle" ∧ (parseMethodDescriptor y.desc).map (fun d => d.parameters.length) = some n) (hR : rm.frames + 1 ≤ R.frames ∧ 8 + (maxL + 11) + rm.locals ≤ R.locals) :
    vx_CSW R s args own index y bytes maxL ret hh ws rm mc ms n := by
  have ok : ∀ w ∈ va_wsS own index y ws, w.before args s = true := fun w h => ht w (hT w h).1
  have hG : GoodIn Ts ws := fun w h => hT w (by unfold va_wsS; exact List.mem_append_right _ h)
  have hc : Cond.codeWith y bytes maxL ret hh ∈ ws := by rw [hw]; exact List.mem_cons_self
  refine ⟨⟨hrc, hrs, hR.1, hR.2, pay_in ht hG, hc⟩, ht _ (hG _ hc).1, ok _ (by simp [va_wsS]), ⟨hd.1, hd.2.1⟩, fun sig h => ?_, ok _ (by simp [va_wsS]), ok _ (by simp [va_wsS])⟩
  have h2 := hd.2.2
  rw [h] at h2
  exact (Option.some.inj h2).symm
theorem vx_callSW (X : Stand p l e R s m args below meth c T locs cells slots) (hexec : p.tables.exec = Jvm.exec) {own : String} {index : Nat} {y : MethodName} {bytes : ByteArray} {maxL : Nat} {ret : Option FieldType} {hh : List (Nat × Nat × Nat × Nat)}
    (hown : s.vm.findClass own = some m.cls) (hlink : (Cond.methodLink own index y).before args s = true) (hstat : (Cond.static y).before args s = true) (hinit : (Cond.initialized y.cls).before args s = true)
    (hcode : (Cond.codeWith y bytes maxL ret hh).before args s = true) (hy : y.cls ≠ "java/lang/invoke/MethodHandle" ∧ y.cls ≠ "java/lang/invoke/VarHandle")
    {W9 : Nat} {Pre : Pt → Array Value → Prop} {Post : Pt → Array Value → Option Value → Pt → Prop} (hK : Back l R p e below s args y 3 W9 Pre Post)
    {g : JFrame} (hg : g.method = m) (hsize : g.locals.size = c.maxLocals) {argsL rest : List Value} (hlen : ∀ sig, parseMethodDescriptor y.desc = some sig → argsL.length = sig.parameters.length)
    (hstack : g.stack = argsL.reverse ++ rest) (hW : 2 * g.monitorRoom + (rest.map fun v => v.category).sum ≤ W9) (hdg : decode c.code g.pc = .ok (.invokestatic index, 3))
    (hpre : ∀ vm₁, s.WarmedH vm₁ → Pre ⟨T.setVm vm₁, locs, cells, slots⟩ argsL.toArray) :
    ∃ (v : Option Value) (vm₁ : Vm) (B : Pt), s.WarmedH vm₁ ∧ Stand p l e R s m args below meth c B.U B.locs B.cells B.slots ∧ Post ⟨T.setVm vm₁, locs, cells, slots⟩ argsL.toArray v B ∧
      ∀ target, Steps p.tables e below (B.U.setTop { g with pc := g.pc + 3, stack := v.toList ++ rest }) target → Steps p.tables e below (T.setTop g) target := by
  obtain ⟨mk, methM, cM, hnamed, hmethM, -, -, -, -, -, -, hsigM⟩ := Cond.codeWith_spec hcode
  have hstatic : methM.isStatic = true := Cond.static_spec hnamed hmethM hstat
  obtain ⟨kP, hkP, -⟩ := className_of_methodNamed hnamed
  have hinitP : kP.init = .initialized := Cond.initialized_spec (findClass_of_methodNamed hnamed) hkP hinit
  obtain ⟨vm₁, X₁, hstep₁⟩ := X.invokestatic hexec hown hlink hnamed hmethM hstatic hkP hinitP hy (g := g) hg (argsL := argsL) (rest := rest) (hlen _ hsigM) hstack hdg
  obtain ⟨v, B, X', hpost, hsteps⟩ := hK m meth c ⟨T.setVm vm₁, locs, cells, slots⟩ { g with stack := rest } (.invokestatic index) mk argsL.toArray X₁ hg hsize hdg hW (X₁.named hnamed) (hpre vm₁ X₁.warmed)
  exact ⟨v, vm₁, B, X₁.warmed, X', hpost, fun target h => hstep₁ _ fun acts => by rw [doInvoke_state]; exact hsteps.trans h⟩
theorem vx_runSW {y : MethodName} {bytes cc : ByteArray} {maxL nL mc ms n index : Nat} {ret : Option FieldType} {hh : List (Nat × Nat × Nat × Nat)} {ws : List Cond} {rm : Room} {Pc : Array Value → State → Prop} {Qc : Array Value → State → Outcome → State → Prop} {free : Addr → Prop} {Ts : List Cond} {own : String} {As rest : List Value} {g : JFrame}
    (S : CallFix p m c cc nL s args Ts own) (hM : Met l y ws rm Pc Qc mc ms free) (cw : vx_CSW R s args own index y bytes maxL ret hh ws rm mc ms n) (hp : PreS s H Pc As)
    (hg : g.method = m) (hn : As.length = n) (hsize : g.locals.size = nL) (hstack : g.stack = As.reverse ++ rest) (hW : 2 * g.monitorRoom + (rest.map fun v => v.category).sum ≤ 8) (hdg : decode cc g.pc = .ok (.invokestatic index, 3)) (hf : cells + mc ≤ R.cells ∧ slots + ms ≤ R.slots) :
    va_Run p l e R s m args below meth c H locs cells slots mc ms g rest (Qc As.toArray) (free) := by
  obtain ⟨⟨hrc, hrs, hfr, hlo, hws, hcw⟩, hcode, hini, hy, hlen, hl, hstt⟩ := cw
  have hK : Back l R p e below s args y 3 8 (PreOf R mc ms Pc) (PostOf Qc mc ms free) := va_backW (hh := hh) (bytes := bytes) (maxL := maxL) (ret := ret) hM hp.1 hrc hrs hfr hlo hws hcw (fun a' U hW => word_at hW (Or.inl (by first | rfl | simp [Cond.onTables, Cond.keeps, Cond.steady])) hini)
  obtain ⟨hx, hb, hml, ho, -⟩ := S
  intro T hT X
  obtain ⟨v, vm₁, ⟨U', l2, c2, s2⟩, hW₁, X', ⟨g', mk, t, L, e1, e2, hq, h1, hL, h2, h3⟩, st⟩ := vx_callSW X hx (hh := hh) (bytes := bytes) (maxL := maxL) (ret := ret) ho hl hstt hini hcode hy hK hg (hsize.trans hml.symm) (argsL := As) (rest := rest) (fun sig h => hn.trans (hlen sig h)) hstack hW (by rw [hb]; exact hdg)
    (fun vm₁ hW₁ => ⟨hf.1, hf.2, hp.2 (T.setVm vm₁) hT hW₁⟩)
  dsimp only [Pt.U, Pt.locs, Pt.cells, Pt.slots] at X' e1 e2 h1 h2 h3 st
  subst h1; subst h2; subst h3
  exact ⟨v, (T.setVm vm₁).calling g' mk As.toArray, t, U', L, hT, X', hL, e1, e2, hq, st⟩
/-- not caught here, past rows that name other classes: it goes on to the caller -/
theorem vx_outP {p : Program} {l : Launch} {e : Env} {R : Room} {s : State} {m : MethodId} {args : Array Value} {below : List Frame} {meth : Method} {c : Code} {H : Heap} {locs : List Loc} {cells slots : Nat} {free : Addr → Prop} {ls : Array Slot} {rest : List Value} {Qc : Array Value → State → Outcome → State → Prop} {XC : String → State → State → Prop}
    {pc : Nat} {own E : String} {ce : Cell} {q : Addr} {mc ms : Nat} (hown : s.vm.findClass own = some m.cls) (hlocks : meth.locks = false)
    (hpass : ∀ z ∈ c.exceptionTable.toList, covers z pc = false ∨ (z.catchType ≠ 0 ∧ ∃ nm : String, (Cond.classLink own z.catchType nm).before args s = true ∧ va_Nc E nm s)) (hcell : H[q]? = some ce) (hv : ce.vm = .none) (hcl : s.vm.findClass E = some ce.cls)
    (hx : ∀ t : State, t.heap = H → s.vm.Alike t.vm → XC E s t) (hf : ∀ z ∈ locs, free z.base) (hc : cells ≤ mc) (hs : slots ≤ ms) :
    vx_W p l e R s m args below meth c H locs cells slots (vx_MQ below Qc XC args s mc ms free) (F0 m pc ls rest) q := by
  intro T hT X
  have hpl : e.platform.magicAccessors = ({} : Platform).magicAccessors := by rw [X.admits.platform]
  obtain ⟨vm', hW', X', st⟩ := Jvm.Stand.outThrough X hlocks q (g := F0 m pc ls rest) rfl rfl rfl (cell := ce) (by rw [hT]; exact hcell) (by rw [hv]; rfl)
    (by obtain ⟨k9, h9, -⟩ := Vm.findClass_spec hcl; exact ⟨k9, h9⟩) (fun z hz => by
      rcases hpass z hz with h | ⟨hz0, nm, hl1, hn1⟩
      · exact Or.inl h
      · obtain ⟨c6, hc6, hcl6⟩ := Cond.classLink_spec hown hl1 e.platform hpl
        obtain ⟨a8, b8, h1, h2, h3⟩ := hn1
        cases Option.some.inj (h1.symm.trans hcl)
        cases Option.some.inj (h2.symm.trans hc6)
        exact Or.inr ⟨hz0, _, hcl6, h3⟩)
  obtain ⟨g₀, hfr⟩ := X'.frames_eq
  have hcell9 : ((T.setVm vm').setFrames (.throwing q :: below)).heap[q]? = some ce := by
    show T.heap[q]? = some ce
    rw [hT]; exact hcell
  have hend : Ended ((T.setVm vm').setFrames (.throwing q :: below)) below (.threw q) := State.frames_setFrames _ (State.cur_lt_of_frames hfr)
  refine ⟨(T.setVm vm').setFrames (.throwing q :: below), ?_, .threw q, X'.here.running, hend, Or.inr ⟨q, rfl, E, ce, locs, hx _ hT (X'.ends _).1.alike, hcell9, hv, hcl, (X'.ends _).1, (X'.ends _).2.mono hc hs, hf⟩⟩
  rw [X.pushThrowing_eq]
  exact st
/-- a thing of a world lies in the heap -/
theorem vx_lt {D : va_G} {cl : List vw_C} {ws : va_W} {H1 : Heap} (h : va_P D cl ws H1) {k : Nat} {q : Nat × va_E} (hk : ws[k]? = some q) : q.1 < H1.size := (h k q hk).lt
end VXS
/-! ===== END ===== -/
/-! ===== BEGIN methods with a table of their own: called by a name, returning or throwing ===== -/
section VXH
/-! vx_backW, vx_callVX, vx_callSX, vx_callVW, vx_runVW, vx_runVX, vx_runSX, vx_ofWH follow the same proofs as their sisters above (Free/Laws.lean, Shelf42/LK1.lean); vx_outP calls Shelf42/NT130.lean (outThrough). -/
section
variable {l : Launch} {R : Room} {p : Program} {e : Env} {below : List Frame} {s : State} {sargs : Array Value} {y : MethodName} {len W9 : Nat}
theorem vx_backW {ws : List Cond} {rm : Room} {Pc : Array Value → State → Prop} {Qc : Array Value → State → Outcome → State → Prop} {XC : String → State → State → Prop} {mc ms : Nat} {free : Addr → Prop} {bytes : ByteArray} {maxL : Nat} {ret : Option FieldType} {hh : List (Nat × Nat × Nat × Nat)}
    (hM : vx_Met l y ws rm Pc Qc XC mc ms free) (hblind : FrameBlind Pc) (hrc : rm.cells = mc) (hrs : rm.slots = ms)
    (hframes : rm.frames + 1 ≤ R.frames) (hlocals : W9 + (maxL + 11) + rm.locals ≤ R.locals)
    (hws : ∀ w ∈ ws, ∀ a' U, s.WarmedH U.vm → w.before a' U = true) (hcode : Cond.codeWith y bytes maxL ret hh ∈ ws) (hinit : ∀ a' U, s.WarmedH U.vm → (Cond.initialized y.cls).before a' U = true) :
    vx_Back l R p e below s sargs y len W9 (PreOf R mc ms Pc) (PostOf Qc mc ms free) (vx_Post XC mc ms free) := by
  intro m meth c A g ig mk a X hg hsize hdg hW hn hp
  have h1 : (headSpec ws rm).pre.before a A.U = true := atoms_intro fun w hw => hws w hw _ _ X.warmed
  have h2 : (Cond.codeWith y bytes maxL ret hh).before a A.U = true := hws _ hcode _ _ X.warmed
  have h3 : (Cond.initialized y.cls).before a A.U = true := hinit _ _ X.warmed
  have h4 : A.cells + (headSpec ws rm).room.cells ≤ R.cells := by rw [show (headSpec ws rm).room.cells = mc from hrc]; exact hp.1
  have h5 : A.slots + (headSpec ws rm).room.slots ≤ R.slots := by rw [show (headSpec ws rm).room.slots = ms from hrs]; exact hp.2.1
  have hPc : Pc a (A.U.calling g mk a) := hblind _ _ _ _ hp.2.2
  obtain ⟨U, Ls, c0, s0⟩ := A
  dsimp only [Pt.U, Pt.locs, Pt.cells, Pt.slots] at h1 h2 h3 h4 h5 X hn hPc ⊢
  obtain ⟨m9, methY, cY, hn9, hmY, hcY, -, hlY, -⟩ := Cond.codeWith_spec h2
  cases Option.some.inj (hn9.symm.trans hn)
  obtain ⟨kY, hkY, -⟩ := className_of_methodNamed hn
  have hinitY : kY.init = .initialized := Cond.initialized_spec (findClass_of_methodNamed hn) hkY h3
  have h : At U g.method c below := by rw [hg]; exact X.here
  have hlocals9 : W9 + (maxL + 11) + (headSpec ws rm).room.locals ≤ R.locals := hlocals
  have happ : (headSpec ws rm).appliesLoose y e.platform (U.calling g mk a) = true :=
    Spec.appliesLoose_calling (g := g) h hdg hn hkY hinitY
      (X.room_calling (g := g) (R' := (headSpec ws rm).room) hsize hmY hcY hframes (by rw [hlY]; omega) h4 h5) h1
  obtain ⟨mid, hmid⟩ := h.above
  have hfr : (U.setTop g).frames = (.java g :: mid) ++ below := by rw [State.frames_setTop' g h.top, hmid]; rfl
  obtain ⟨o, s₂, hsteps, -, hend, hq⟩ := Steps.callFree hM p X.admits X.cas X.clock (acts := []) hfr happ hPc trivial
  have hq' : vx_Q Qc XC mc ms free a (U.calling g mk a) o s₂ := hq
  rw [State.frames_setTop' g h.top] at hend
  obtain ⟨g₀, hg0⟩ := Option.isSome_iff_exists.mp h.top
  obtain ⟨r, hr⟩ := State.topJava?_eq_some.mp hg0
  have hr' : (({ U with heap := s₂.heap, slotsUsed := s₂.slotsUsed } : State).setVm s₂.vm).frames = .java g₀ :: r := hr
  rcases hq' with ⟨hqc, L, hfe, hL⟩ | ⟨q, rfl, E, ce, L, hx, hce, hcv, hcl, hW₂, hsm, hL⟩
  · obtain ⟨⟨v, rfl⟩, hW₂, e2, q2, q3, q4, q5, q6⟩ := id hfe
    have e3 : s₂ = ({ (U.calling g mk a).setFrames s₂.frames with heap := s₂.heap, slotsUsed := s₂.slotsUsed } : State).setVm s₂.vm := by
      have : s₂ = ({ s₂ with vm := (U.calling g mk a).vm } : State).setVm s₂.vm := rfl
      rw [e2] at this
      exact this
    obtain ⟨c₂, i₂, len₂, hc₂, hd₂, hf₂⟩ := hend
    have hW' : U.WarmedH s₂.vm := hW₂
    have hcc : c₂ = c := by
      have h1 : s₂.code? g.method = U.code? g.method := by
        rw [State.code?_eq, State.code?_eq, hW'.alike.method?]
      exact Option.some.inj (hc₂.symm.trans (h1.trans h.code))
    subst hcc
    have hlen : len₂ = len := by rw [hdg] at hd₂; cases hd₂; rfl
    subst hlen
    have hs₂ : s₂ = (({ U with heap := s₂.heap, slotsUsed := s₂.slotsUsed } : State).setVm s₂.vm).setTop { g with pc := g.pc + len₂, stack := v.toList ++ g.stack } := by
      refine e3.trans ?_
      rw [hf₂, State.calling_eq h.top, State.setFrames_setFrames, State.setTop_of_frames _ hr', hr]
      rfl
    have hsame : U.sameButNew ({ U with heap := s₂.heap, slotsUsed := s₂.slotsUsed } : State) L mc ms := by
      refine ⟨?_, q2, q3, q4, q5, q6⟩
      obtain ⟨t, ht, -⟩ := State.frames_cons hr
      show ({ U with heap := s₂.heap, slotsUsed := s₂.slotsUsed } : State) = { U.setFrames U.frames with heap := s₂.heap, slotsUsed := s₂.slotsUsed }
      rw [State.setFrames_self ht]
    subst hg
    refine Or.inl ⟨v, ⟨(({ U with heap := s₂.heap, slotsUsed := s₂.slotsUsed } : State).setVm s₂.vm), Ls ++ L, c0 + mc, s0 + ms⟩,
      ⟨X.admits, X.cas, X.clock, X.frames, X.room, X.hears, X.method, X.code, (X.here.setHeapUsed s₂.heap s₂.slotsUsed).setVm hW'.alike, X.tail, State.WarmedH.trans X.warmed hW', X.limits, X.bytes, X.same.trans (hsame.setVm s.vm)⟩,
      ⟨g, mk, s₂, L, rfl, rfl, hqc, rfl, hL, rfl, rfl⟩, ?_⟩
    show Steps p.tables e below _ ((({ U with heap := s₂.heap, slotsUsed := s₂.slotsUsed } : State).setVm s₂.vm).setTop { g with pc := g.pc + len₂, stack := v.toList ++ g.stack })
    rw [← hs₂]
    exact hsteps
  · obtain ⟨e2, q2, q3, q4, q5, q6⟩ := id hsm
    have e3 : s₂ = ({ (U.calling g mk a).setFrames s₂.frames with heap := s₂.heap, slotsUsed := s₂.slotsUsed } : State).setVm s₂.vm := by
      have : s₂ = ({ s₂ with vm := (U.calling g mk a).vm } : State).setVm s₂.vm := rfl
      rw [e2] at this
      exact this
    have hf₂ : s₂.frames = .throwing q :: .java g :: U.frames.tail := hend
    have hW' : U.WarmedH s₂.vm := hW₂
    have hs₂ : s₂ = ((({ U with heap := s₂.heap, slotsUsed := s₂.slotsUsed } : State).setVm s₂.vm).setTop g).pushFrame (.throwing q) := by
      refine e3.trans ?_
      rw [hf₂, State.calling_eq h.top, State.setFrames_setFrames, State.pushFrame, State.frames_setTop _ hr', State.setTop_of_frames _ hr', State.setFrames_setFrames, hr]
      rfl
    have hsame : U.sameButNew ({ U with heap := s₂.heap, slotsUsed := s₂.slotsUsed } : State) L mc ms := by
      refine ⟨?_, q2, q3, q4, q5, q6⟩
      obtain ⟨t, ht, -⟩ := State.frames_cons hr
      show ({ U with heap := s₂.heap, slotsUsed := s₂.slotsUsed } : State) = { U.setFrames U.frames with heap := s₂.heap, slotsUsed := s₂.slotsUsed }
      rw [State.setFrames_self ht]
    subst hg
    refine Or.inr ⟨q, ⟨(({ U with heap := s₂.heap, slotsUsed := s₂.slotsUsed } : State).setVm s₂.vm), Ls ++ L, c0 + mc, s0 + ms⟩,
      ⟨X.admits, X.cas, X.clock, X.frames, X.room, X.hears, X.method, X.code, (X.here.setHeapUsed s₂.heap s₂.slotsUsed).setVm hW'.alike, X.tail, State.WarmedH.trans X.warmed hW', X.limits, X.bytes, X.same.trans (hsame.setVm s.vm)⟩,
      ⟨g, mk, s₂, L, E, ce, rfl, rfl, hx, hce, hcv, hcl, rfl, hL, rfl, rfl⟩, ?_⟩
    show Steps p.tables e below _ (((({ U with heap := s₂.heap, slotsUsed := s₂.slotsUsed } : State).setVm s₂.vm).setTop g).pushFrame (.throwing q))
    rw [← hs₂]
    exact hsteps
end
variable {p : Program} {l : Launch} {e : Env} {R : Room} {s : State} {m : MethodId} {args : Array Value} {below : List Frame} {meth : Method} {c : Code} {T : State} {H : Heap} {locs : List Loc} {cells slots : Nat}
theorem vx_callVX (X : Stand p l e R s m args below meth c T locs cells slots) (hexec : p.tables.exec = Jvm.exec) {own C : String} {index : Nat} {y : MethodName} {bytes : ByteArray} {maxL : Nat} {ret : Option FieldType} {hh : List (Nat × Nat × Nat × Nat)}
    (hown : s.vm.findClass own = some m.cls) (hlink : (Cond.methodLink own index y).before args s = true) (hinst : (Cond.instanceMethod y).before args s = true) (hsel : (Cond.selects C y y).before args s = true)
    (hcode : (Cond.codeWith y bytes maxL ret hh).before args s = true) (hy : y.cls ≠ "java/lang/invoke/MethodHandle" ∧ y.cls ≠ "java/lang/invoke/VarHandle")
    {W9 : Nat} {Pre : Pt → Array Value → Prop} {Post : Pt → Array Value → Option Value → Pt → Prop} {PostX : Pt → Array Value → Addr → Pt → Prop} (hK : vx_Back l R p e below s args y 3 W9 Pre Post PostX)
    {b : Addr} {cellB : Cell} (hcell : T.heap[b]? = some cellB) (hobj : cellB.vm.isStatics = false) (hcls : s.vm.findClass C = some cellB.cls)
    {g : JFrame} (hg : g.method = m) (hsize : g.locals.size = c.maxLocals) {argsL rest : List Value} (hlen : ∀ sig, parseMethodDescriptor y.desc = some sig → argsL.length = sig.parameters.length)
    (hstack : g.stack = argsL.reverse ++ .ref b :: rest) (hW : 2 * g.monitorRoom + (rest.map fun v => v.category).sum ≤ W9) (hdg : decode c.code g.pc = .ok (.invokevirtual index, 3))
    (hpre : ∀ vm₁, s.WarmedH vm₁ → Pre ⟨T.setVm vm₁, locs, cells, slots⟩ (Value.ref b :: argsL).toArray) :
    (∃ (v : Option Value) (vm₁ : Vm) (B : Pt), s.WarmedH vm₁ ∧ Stand p l e R s m args below meth c B.U B.locs B.cells B.slots ∧ Post ⟨T.setVm vm₁, locs, cells, slots⟩ (Value.ref b :: argsL).toArray v B ∧
      ∀ target, Steps p.tables e below (B.U.setTop { g with pc := g.pc + 3, stack := v.toList ++ rest }) target → Steps p.tables e below (T.setTop g) target) ∨
    (∃ (q : Addr) (vm₁ : Vm) (B : Pt), s.WarmedH vm₁ ∧ Stand p l e R s m args below meth c B.U B.locs B.cells B.slots ∧ PostX ⟨T.setVm vm₁, locs, cells, slots⟩ (Value.ref b :: argsL).toArray q B ∧
      Steps p.tables e below (T.setTop g) ((B.U.setTop { g with stack := rest }).pushFrame (.throwing q))) := by
  obtain ⟨mk, methM, hnamed, hmethM, hstM, habM⟩ := Cond.instanceMethod_spec hinst
  obtain ⟨m8, methM', cM, hn8, hmethM', -, -, -, -, -, -, hsigM⟩ := Cond.codeWith_spec hcode
  cases Option.some.inj (hn8.symm.trans hnamed)
  cases hmethM.symm.trans hmethM'
  obtain ⟨c2, r2, m2, q1, q2, q3, q4, kP, hkP, hkPi⟩ := Cond.selects_spec hsel
  cases hcls.symm.trans q1
  cases (State.methodFound?_of_named hnamed hy).symm.trans q2
  cases hnamed.symm.trans q3
  have hselP : selectMethod e.platform s.vm cellB.cls mk = .method mk := by rw [Launch.admits_selectMethod X.admits]; exact q4
  obtain ⟨vm₁, X₁, hstep₁⟩ := X.invokevirtual hexec hown hlink hnamed hmethM hstM hkP hkPi hy (a := b) (cell := cellB) hcell
    (fun z h => by rw [h] at hobj; cases hobj) hselP hmethM habM hkP hkPi (g := g) hg (argsL := argsL) (rest := rest) (hlen _ hsigM) hstack hdg
  rcases hK m meth c ⟨T.setVm vm₁, locs, cells, slots⟩ { g with stack := rest } (.invokevirtual index) mk (Value.ref b :: argsL).toArray X₁ hg hsize hdg hW (X₁.named hnamed) (hpre vm₁ X₁.warmed) with ⟨v, B, X', hpost, hsteps⟩ | ⟨q, B, X', hpost, hsteps⟩
  · exact Or.inl ⟨v, vm₁, B, X₁.warmed, X', hpost, fun target h => hstep₁ _ fun acts => by rw [doInvoke_state]; exact hsteps.trans h⟩
  · exact Or.inr ⟨q, vm₁, B, X₁.warmed, X', hpost, hstep₁ _ fun acts => by rw [doInvoke_state]; exact hsteps⟩
theorem vx_callSX (X : Stand p l e R s m args below meth c T locs cells slots) (hexec : p.tables.exec = Jvm.exec) {own : String} {index : Nat} {y : MethodName} {bytes : ByteArray} {maxL : Nat} {ret : Option FieldType} {hh : List (Nat × Nat × Nat × Nat)}
    (hown : s.vm.findClass own = some m.cls) (hlink : (Cond.methodLink own index y).before args s = true) (hstat : (Cond.static y).before args s = true) (hinit : (Cond.initialized y.cls).before args s = true)
    (hcode : (Cond.codeWith y bytes maxL ret hh).before args s = true) (hy : y.cls ≠ "java/lang/invoke/MethodHandle" ∧ y.cls ≠ "java/lang/invoke/VarHandle")
    {W9 : Nat} {Pre : Pt → Array Value → Prop} {Post : Pt → Array Value → Option Value → Pt → Prop} {PostX : Pt → Array Value → Addr → Pt → Prop} (hK : vx_Back l R p e below s args y 3 W9 Pre Post PostX)
    {g : JFrame} (hg : g.method = m) (hsize : g.locals.size = c.maxLocals) {argsL rest : List Value} (hlen : ∀ sig, parseMethodDescriptor y.desc = some sig → argsL.length = sig.parameters.length)
    (hstack : g.stack = argsL.reverse ++ rest) (hW : 2 * g.monitorRoom + (rest.map fun v => v.category).sum ≤ W9) (hdg : decode c.code g.pc = .ok (.invokestatic index, 3))
    (hpre : ∀ vm₁, s.WarmedH vm₁ → Pre ⟨T.setVm vm₁, locs, cells, slots⟩ argsL.toArray) :
    (∃ (v : Option Value) (vm₁ : Vm) (B : Pt), s.WarmedH vm₁ ∧ Stand p l e R s m args below meth c B.U B.locs B.cells B.slots ∧ Post ⟨T.setVm vm₁, locs, cells, slots⟩ argsL.toArray v B ∧
      ∀ target, Steps p.tables e below (B.U.setTop { g with pc := g.pc + 3, stack := v.toList ++ rest }) target → Steps p.tables e below (T.setTop g) target) ∨
    (∃ (q : Addr) (vm₁ : Vm) (B : Pt), s.WarmedH vm₁ ∧ Stand p l e R s m args below meth c B.U B.locs B.cells B.slots ∧ PostX ⟨T.setVm vm₁, locs, cells, slots⟩ argsL.toArray q B ∧
      Steps p.tables e below (T.setTop g) ((B.U.setTop { g with stack := rest }).pushFrame (.throwing q))) := by
  obtain ⟨mk, methM, cM, hnamed, hmethM, -, -, -, -, -, -, hsigM⟩ := Cond.codeWith_spec hcode
  have hstatic : methM.isStatic = true := Cond.static_spec hnamed hmethM hstat
  obtain ⟨kP, hkP, -⟩ := className_of_methodNamed hnamed
  have hinitP : kP.init = .initialized := Cond.initialized_spec (findClass_of_methodNamed hnamed) hkP hinit
  obtain ⟨vm₁, X₁, hstep₁⟩ := X.invokestatic hexec hown hlink hnamed hmethM hstatic hkP hinitP hy (g := g) hg (argsL := argsL) (rest := rest) (hlen _ hsigM) hstack hdg
  rcases hK m meth c ⟨T.setVm vm₁, locs, cells, slots⟩ { g with stack := rest } (.invokestatic index) mk argsL.toArray X₁ hg hsize hdg hW (X₁.named hnamed) (hpre vm₁ X₁.warmed) with ⟨v, B, X', hpost, hsteps⟩ | ⟨q, B, X', hpost, hsteps⟩
  · exact Or.inl ⟨v, vm₁, B, X₁.warmed, X', hpost, fun target h => hstep₁ _ fun acts => by rw [doInvoke_state]; exact hsteps.trans h⟩
  · exact Or.inr ⟨q, vm₁, B, X₁.warmed, X', hpost, hstep₁ _ fun acts => by rw [doInvoke_state]; exact hsteps⟩
theorem vx_callVW (X : Stand p l e R s m args below meth c T locs cells slots) (hexec : p.tables.exec = Jvm.exec) {own C : String} {index : Nat} {y : MethodName} {bytes : ByteArray} {maxL : Nat} {ret : Option FieldType} {hh : List (Nat × Nat × Nat × Nat)}
    (hown : s.vm.findClass own = some m.cls) (hlink : (Cond.methodLink own index y).before args s = true) (hinst : (Cond.instanceMethod y).before args s = true) (hsel : (Cond.selects C y y).before args s = true)
    (hcode : (Cond.codeWith y bytes maxL ret hh).before args s = true) (hy : y.cls ≠ "java/lang/invoke/MethodHandle" ∧ y.cls ≠ "java/lang/invoke/VarHandle")
    {W9 : Nat} {Pre : Pt → Array Value → Prop} {Post : Pt → Array Value → Option Value → Pt → Prop} (hK : Back l R p e below s args y 3 W9 Pre Post)
    {b : Addr} {cellB : Cell} (hcell : T.heap[b]? = some cellB) (hobj : cellB.vm.isStatics = false) (hcls : s.vm.findClass C = some cellB.cls)
    {g : JFrame} (hg : g.method = m) (hsize : g.locals.size = c.maxLocals) {argsL rest : List Value} (hlen : ∀ sig, parseMethodDescriptor y.desc = some sig → argsL.length = sig.parameters.length)
    (hstack : g.stack = argsL.reverse ++ .ref b :: rest) (hW : 2 * g.monitorRoom + (rest.map fun v => v.category).sum ≤ W9) (hdg : decode c.code g.pc = .ok (.invokevirtual index, 3))
    (hpre : ∀ vm₁, s.WarmedH vm₁ → Pre ⟨T.setVm vm₁, locs, cells, slots⟩ (Value.ref b :: argsL).toArray) :
    ∃ (v : Option Value) (vm₁ : Vm) (B : Pt), s.WarmedH vm₁ ∧ Stand p l e R s m args below meth c B.U B.locs B.cells B.slots ∧ Post ⟨T.setVm vm₁, locs, cells, slots⟩ (Value.ref b :: argsL).toArray v B ∧
      ∀ target, Steps p.tables e below (B.U.setTop { g with pc := g.pc + 3, stack := v.toList ++ rest }) target → Steps p.tables e below (T.setTop g) target := by
  obtain ⟨mk, methM, hnamed, hmethM, hstM, habM⟩ := Cond.instanceMethod_spec hinst
  obtain ⟨m8, methM', cM, hn8, hmethM', -, -, -, -, -, -, hsigM⟩ := Cond.codeWith_spec hcode
  cases Option.some.inj (hn8.symm.trans hnamed)
  cases hmethM.symm.trans hmethM'
  obtain ⟨c2, r2, m2, q1, q2, q3, q4, kP, hkP, hkPi⟩ := Cond.selects_spec hsel
  cases hcls.symm.trans q1
  cases (State.methodFound?_of_named hnamed hy).symm.trans q2
  cases hnamed.symm.trans q3
  have hselP : selectMethod e.platform s.vm cellB.cls mk = .method mk := by rw [Launch.admits_selectMethod X.admits]; exact q4
  obtain ⟨vm₁, X₁, hstep₁⟩ := X.invokevirtual hexec hown hlink hnamed hmethM hstM hkP hkPi hy (a := b) (cell := cellB) hcell
    (fun z h => by rw [h] at hobj; cases hobj) hselP hmethM habM hkP hkPi (g := g) hg (argsL := argsL) (rest := rest) (hlen _ hsigM) hstack hdg
  obtain ⟨v, B, X', hpost, hsteps⟩ := hK m meth c ⟨T.setVm vm₁, locs, cells, slots⟩ { g with stack := rest } (.invokevirtual index) mk (Value.ref b :: argsL).toArray X₁ hg hsize hdg hW (X₁.named hnamed) (hpre vm₁ X₁.warmed)
  exact ⟨v, vm₁, B, X₁.warmed, X', hpost, fun target h => hstep₁ _ fun acts => by rw [doInvoke_state]; exact hsteps.trans h⟩
abbrev vx_CVW (R : Room) (s : State) (args : Array Value) (own C : String) (index : Nat) (y : MethodName) (bytes : ByteArray) (maxL : Nat) (ret : Option FieldType) (hh : List (Nat × Nat × Nat × Nat)) (ws : List Cond) (rm : Room) (mc ms n : Nat) : Prop :=
  (rm.cells = mc ∧ rm.slots = ms ∧ rm.frames + 1 ≤ R.frames ∧ 8 + (maxL + 11) + rm.locals ≤ R.locals ∧ (∀ w ∈ ws, ∀ (a' : Array Value) (U : State), s.WarmedH U.vm → w.before a' U = true) ∧ Cond.codeWith y bytes maxL ret hh ∈ ws) ∧
  (Cond.codeWith y bytes maxL ret hh).before args s = true ∧ (Cond.initialized y.cls).before args s = true ∧ (y.cls ≠ "java/lang/invoke/MethodHandle" ∧ y.cls ≠ "java/lang/invoke/VarHandle") ∧
  (∀ sig, parseMethodDescriptor y.desc = some sig → n = sig.parameters.length) ∧ (Cond.methodLink own index y).before args s = true ∧ (Cond.instanceMethod y).before args s = true ∧ (Cond.selects C y y).before args s = true
theorem vx_cwVW {own C : String} {index maxL mc ms : Nat} {y : MethodName} {bytes : ByteArray} {ret : Option FieldType} {hh : List (Nat × Nat × Nat × Nat)} {Ts ws ws' : List Cond} {rm : Room} (n : Nat) (ht : ∀ w ∈ Ts, w.before args s = true) (hT : GoodIn Ts (wsV own index C y ws)) (hw : ws = Cond.codeWith y bytes maxL ret hh :: ws') (hrc : rm.cells = mc) (hrs : rm.slots = ms)
    (hd : y.cls = C ∧ y.cls ≠ "java/lang/invoke/MethodHandle" ∧ y.cls ≠ "java/lang/invoke/VarHandle" ∧ (parseMethodDescriptor y.desc).map (fun d => d.parameters.length) = some n) (hR : rm.frames + 1 ≤ R.frames ∧ 8 + (maxL + 11) + rm.locals ≤ R.locals) :
    vx_CVW R s args own C index y bytes maxL ret hh ws rm mc ms n := by
  obtain ⟨hC, hd⟩ := hd
  subst hC
  have ok : ∀ w ∈ wsV own index y.cls y ws, w.before args s = true := fun w h => ht w (hT w h).1
  have hG : GoodIn Ts ws := fun w h => hT w (by unfold wsV; exact List.mem_append_right _ h)
  have hc : Cond.codeWith y bytes maxL ret hh ∈ ws := by rw [hw]; exact List.mem_cons_self
  refine ⟨⟨hrc, hrs, hR.1, hR.2, pay_in ht hG, hc⟩, ht _ (hG _ hc).1, ok _ (by simp [wsV]), ⟨hd.1, hd.2.1⟩, fun sig h => ?_, ok _ (by simp [wsV]), ok _ (by simp [wsV]), ok _ (by simp [wsV])⟩
  have h2 := hd.2.2
  rw [h] at h2
  exact (Option.some.inj h2).symm
theorem vx_runVW {y : MethodName} {bytes cc : ByteArray} {maxL nL mc ms n index : Nat} {ret : Option FieldType} {hh : List (Nat × Nat × Nat × Nat)} {ws : List Cond} {rm : Room} {Pc : Array Value → State → Prop} {Qc : Array Value → State → Outcome → State → Prop} {free : Addr → Prop} {Ts : List Cond} {own C : String} {b : Addr} {As rest : List Value} {g : JFrame}
    (S : CallFix p m c cc nL s args Ts own) (hM : Met l y ws rm Pc Qc mc ms free) (cw : vx_CVW R s args own C index y bytes maxL ret hh ws rm mc ms n) (hp : PreV s H C b Pc As)
    (hg : g.method = m) (hn : As.length = n) (hsize : g.locals.size = nL) (hstack : g.stack = As.reverse ++ .ref b :: rest) (hW : 2 * g.monitorRoom + (rest.map fun v => v.category).sum ≤ 8) (hdg : decode cc g.pc = .ok (.invokevirtual index, 3)) (hf : cells + mc ≤ R.cells ∧ slots + ms ≤ R.slots) :
    va_Run p l e R s m args below meth c H locs cells slots mc ms g rest (Qc (Value.ref b :: As).toArray) free := by
  obtain ⟨⟨hrc, hrs, hfr, hlo, hws, hcw⟩, hcode, hini, hy, hlen, hl, hin, hse⟩ := cw
  have hK : Back l R p e below s args y 3 8 (PreOf R mc ms Pc) (PostOf Qc mc ms free) := va_backW (hh := hh) (bytes := bytes) (maxL := maxL) (ret := ret) hM hp.1 hrc hrs hfr hlo hws hcw (fun a' U hW => word_at hW (Or.inl (by first | rfl | simp [Cond.onTables, Cond.keeps, Cond.steady])) hini)
  obtain ⟨hx, hb, hml, ho, -⟩ := S
  obtain ⟨-, ⟨cellB, hcB, hoB, hclB⟩, hPc⟩ := hp
  intro T hT X
  obtain ⟨v, vm₁, ⟨U', l2, c2, s2⟩, hW₁, X', ⟨g', mk, t, L, e1, e2, hq, h1, hL, h2, h3⟩, st⟩ := vx_callVW X hx (C := C) (hh := hh) (bytes := bytes) (maxL := maxL) (ret := ret) ho hl hin hse hcode hy hK (by rw [hT]; exact hcB) hoB hclB hg (hsize.trans hml.symm) (argsL := As) (rest := rest) (fun sig h => hn.trans (hlen sig h)) hstack hW (by rw [hb]; exact hdg)
    (fun vm₁ hW₁ => ⟨hf.1, hf.2, hPc (T.setVm vm₁) hT hW₁⟩)
  dsimp only [Pt.U, Pt.locs, Pt.cells, Pt.slots] at X' e1 e2 h1 h2 h3 st
  subst h1; subst h2; subst h3
  exact ⟨v, (T.setVm vm₁).calling g' mk (Value.ref b :: As).toArray, t, U', L, hT, X', hL, e1, e2, hq, st⟩
section
variable {y : MethodName} {bytes cc : ByteArray} {maxL nL mc ms n index : Nat} {ret : Option FieldType} {ws : List Cond} {rm : Room} {Pc : Array Value → State → Prop} {Qc : Array Value → State → Outcome → State → Prop} {XC : String → State → State → Prop} {free : Addr → Prop} {Ts : List Cond} {own C : String} {b : Addr} {As rest : List Value} {g : JFrame}
theorem vx_runVX {hh : List (Nat × Nat × Nat × Nat)} (S : CallFix p m c cc nL s args Ts own) (hM : vx_Met l y ws rm Pc Qc XC mc ms free) (cw : vx_CVW R s args own C index y bytes maxL ret hh ws rm mc ms n) (hp : PreV s H C b Pc As)
    (hg : g.method = m) (hn : As.length = n) (hsize : g.locals.size = nL) (hstack : g.stack = As.reverse ++ .ref b :: rest) (hW : 2 * g.monitorRoom + (rest.map fun v => v.category).sum ≤ 8) (hdg : decode cc g.pc = .ok (.invokevirtual index, 3)) (hf : cells + mc ≤ R.cells ∧ slots + ms ≤ R.slots) :
    vx_Run p l e R s m args below meth c H locs cells slots mc ms g rest (Qc (Value.ref b :: As).toArray) XC free := by
  obtain ⟨⟨hrc, hrs, hfr, hlo, hws, hcw⟩, hcode, hini, hy, hlen, hl, hin, hse⟩ := cw
  have hK : vx_Back l R p e below s args y 3 8 (PreOf R mc ms Pc) (PostOf Qc mc ms free) (vx_Post XC mc ms free) := vx_backW (hh := hh) (bytes := bytes) (maxL := maxL) (ret := ret) hM hp.1 hrc hrs hfr hlo hws hcw (fun a' U hW => word_at hW (Or.inl (by first | rfl | simp [Cond.onTables, Cond.keeps, Cond.steady])) hini)
  obtain ⟨hx, hb, hml, ho, -⟩ := S
  obtain ⟨-, ⟨cellB, hcB, hoB, hclB⟩, hPc⟩ := hp
  intro T hT X
  rcases vx_callVX X hx (C := C) (hh := hh) (bytes := bytes) (maxL := maxL) (ret := ret) ho hl hin hse hcode hy hK (by rw [hT]; exact hcB) hoB hclB hg (hsize.trans hml.symm) (argsL := As) (rest := rest) (fun sig h => hn.trans (hlen sig h)) hstack hW (by rw [hb]; exact hdg)
    (fun vm₁ hW₁ => ⟨hf.1, hf.2, hPc (T.setVm vm₁) hT hW₁⟩) with ⟨v, vm₁, ⟨U', l2, c2, s2⟩, hW₁, X', ⟨g', mk, t, L, e1, e2, hq, h1, hL, h2, h3⟩, st⟩ | ⟨q, vm₁, ⟨U', l2, c2, s2⟩, hW₁, X', ⟨g', mk, t, L, E, ce, e1, e2, hq, hce, hcv, hcl, h1, hL, h2, h3⟩, st⟩
  · dsimp only [Pt.U, Pt.locs, Pt.cells, Pt.slots] at X' e1 e2 h1 h2 h3 st
    subst h1; subst h2; subst h3
    exact Or.inl ⟨v, (T.setVm vm₁).calling g' mk (Value.ref b :: As).toArray, t, U', L, hT, X', hL, e1, e2, hq, st⟩
  · dsimp only [Pt.U, Pt.locs, Pt.cells, Pt.slots] at X' e1 e2 h1 h2 h3 st hcl
    subst h1; subst h2; subst h3
    exact Or.inr ⟨q, (T.setVm vm₁).calling g' mk (Value.ref b :: As).toArray, t, U', L, E, ce, hT, X', hL, e1, e2, hq, hce, hcv, vx_cls hW₁ hcl, st⟩
theorem vx_runSX {hh : List (Nat × Nat × Nat × Nat)} (S : CallFix p m c cc nL s args Ts own) (hM : vx_Met l y ws rm Pc Qc XC mc ms free) (cw : vx_CSW R s args own index y bytes maxL ret hh ws rm mc ms n) (hp : PreS s H Pc As)
    (hg : g.method = m) (hn : As.length = n) (hsize : g.locals.size = nL) (hstack : g.stack = As.reverse ++ rest) (hW : 2 * g.monitorRoom + (rest.map fun v => v.category).sum ≤ 8) (hdg : decode cc g.pc = .ok (.invokestatic index, 3)) (hf : cells + mc ≤ R.cells ∧ slots + ms ≤ R.slots) :
    vx_Run p l e R s m args below meth c H locs cells slots mc ms g rest (Qc As.toArray) XC free := by
  obtain ⟨⟨hrc, hrs, hfr, hlo, hws, hcw⟩, hcode, hini, hy, hlen, hl, hstt⟩ := cw
  have hK : vx_Back l R p e below s args y 3 8 (PreOf R mc ms Pc) (PostOf Qc mc ms free) (vx_Post XC mc ms free) := vx_backW (hh := hh) (bytes := bytes) (maxL := maxL) (ret := ret) hM hp.1 hrc hrs hfr hlo hws hcw (fun a' U hW => word_at hW (Or.inl (by first | rfl | simp [Cond.onTables, Cond.keeps, Cond.steady])) hini)
  obtain ⟨hx, hb, hml, ho, -⟩ := S
  intro T hT X
  rcases vx_callSX X hx (hh := hh) (bytes := bytes) (maxL := maxL) (ret := ret) ho hl hstt hini hcode hy hK hg (hsize.trans hml.symm) (argsL := As) (rest := rest) (fun sig h => hn.trans (hlen sig h)) hstack hW (by rw [hb]; exact hdg)
    (fun vm₁ hW₁ => ⟨hf.1, hf.2, hp.2 (T.setVm vm₁) hT hW₁⟩) with ⟨v, vm₁, ⟨U', l2, c2, s2⟩, hW₁, X', ⟨g', mk, t, L, e1, e2, hq, h1, hL, h2, h3⟩, st⟩ | ⟨q, vm₁, ⟨U', l2, c2, s2⟩, hW₁, X', ⟨g', mk, t, L, E, ce, e1, e2, hq, hce, hcv, hcl, h1, hL, h2, h3⟩, st⟩
  · dsimp only [Pt.U, Pt.locs, Pt.cells, Pt.slots] at X' e1 e2 h1 h2 h3 st
    subst h1; subst h2; subst h3
    exact Or.inl ⟨v, (T.setVm vm₁).calling g' mk As.toArray, t, U', L, hT, X', hL, e1, e2, hq, st⟩
  · dsimp only [Pt.U, Pt.locs, Pt.cells, Pt.slots] at X' e1 e2 h1 h2 h3 st hcl
    subst h1; subst h2; subst h3
    exact Or.inr ⟨q, (T.setVm vm₁).calling g' mk As.toArray, t, U', L, E, ce, hT, X', hL, e1, e2, hq, hce, hcv, vx_cls hW₁ hcl, st⟩
end
end VXH
theorem vx_ofWH {l : Launch} {y : MethodName} {ws ws' : List Cond} {rm : Room} {Pc : Array Value → State → Prop} {Qc : Array Value → State → Outcome → State → Prop} {XC : String → State → State → Prop} {mc ms : Nat} {free : Addr → Prop} {cc : ByteArray} {maxL : Nat} {ret : Option FieldType} {hh : List (Nat × Nat × Nat × Nat)}
    (hy : plainName y.cls = true) (hw : ws = Cond.codeWith y cc maxL ret hh :: ws')
    (body : ∀ p e s m args below meth c s₁, BodyLoose p l y (headSpec ws rm) cc maxL ret e s m args below meth c s₁ → c.maxLocals = maxL → Pc args s →
      W p l e (headSpec ws rm).room s m args below meth c s.heap [] 0 0 (vx_MQ below Qc XC args s mc ms free) (entryFrame m args maxL)) : vx_Met l y ws rm Pc Qc XC mc ms free := by
  refine MetFree.of_bodyS (code := cc) (maxLocals := maxL) (ret := ret) hy ?_ ?_
  · intro args s m h hn
    obtain ⟨m9, meth, c, hn9, h1, h2, h3, h4, -, h5, h6, -⟩ := Cond.codeWith_spec (atoms_spec (ws := ws) h _ (by rw [hw]; exact List.mem_cons_self))
    cases hn.symm.trans hn9
    exact ⟨meth, c, h1, h2, h3, h4, h5, h6⟩
  · intro p e s m args below meth c s₁ B hml hP _
    have hh0 : s₁.heap = s.heap := by rw [B.state]; rfl
    obtain ⟨t, a1, o, b1, b2, b3⟩ := body p e s m args below meth c s₁ B hml hP s₁ hh0 (Stand.of_body B)
    exact ⟨t, o, a1, b1, b2, b3⟩
/-! ===== END ===== -/
end
section
def RX0 : String := "MarshBells$Chances"
def TX0 : u_T := fun k => match k with
  | 0 => ("MarshBells$Chances", "day", "LMarshBells$Day;", true)
  | 1 => ("MarshBells$Chances", "unsure", "[I", true)
  | 2 => ("MarshBells$Chances", "many", "I", false)
  | 3 => ("MarshBells$Chances", "never", "I", false)
  | 4 => ("MarshBells$Chances", "seed", "I", false)
  | 5 => ("MarshBells$Chances", "upper", "J", false)
  | _ => ("MarshBells$Chances", "lower", "J", false)
def tyX0 : Nat → FieldType := fun k => match k with
  | 0 => .object "MarshBells$Day"
  | 1 => .array .int
  | 2 => .int
  | 3 => .int
  | 4 => .int
  | 5 => .long
  | _ => .long
abbrev wsX00 : List Cond := u_ws RX0 TX0 7
theorem nmX0 : ∀ a, a < 7 → ∀ b, b < 7 → a ≠ b → (TX0 a).2.1 ≠ (TX0 b).2.1 := by decide +kernel
theorem tyX0_ok : ∀ k, k < 7 → parseFieldDescriptor (TX0 k).2.2.1 = some (tyX0 k) := by decide +kernel
abbrev cX0_init : ByteArray := prog_2_method_1_code
def yX0_init : MethodName := ⟨RX0, "<init>", "(LMarshBells$Day;)V"⟩
abbrev cX0_ofLate : ByteArray := prog_2_method_2_code
def yX0_ofLate : MethodName := ⟨RX0, "ofLate", "(II)V"⟩
abbrev cX0_meanLate : ByteArray := prog_2_method_3_code
def yX0_meanLate : MethodName := ⟨RX0, "meanLate", "(I)V"⟩
abbrev cX0_findUnsure : ByteArray := prog_2_method_4_code
def yX0_findUnsure : MethodName := ⟨RX0, "findUnsure", "(I)V"⟩
abbrev cX0_runWith : ByteArray := prog_2_method_5_code
def yX0_runWith : MethodName := ⟨RX0, "runWith", "(II)V"⟩
abbrev cX0_weight : ByteArray := prog_2_method_6_code
def yX0_weight : MethodName := ⟨RX0, "weight", "(I)J"⟩
abbrev cX0_reduce : ByteArray := prog_2_method_7_code
def yX0_reduce : MethodName := ⟨RX0, "reduce", "()V"⟩
abbrev cX0_ofTerm : ByteArray := prog_2_method_8_code
def yX0_ofTerm : MethodName := ⟨RX0, "ofTerm", "(IIII)I"⟩
abbrev cX0_drawRunning : ByteArray := prog_2_method_9_code
def yX0_drawRunning : MethodName := ⟨RX0, "drawRunning", "()I"⟩
abbrev cX0_drawOfTen : ByteArray := prog_2_method_10_code
def yX0_drawOfTen : MethodName := ⟨RX0, "drawOfTen", "()I"⟩
def RX1 : String := "MarshBells$Day"
def TX1 : u_T := fun k => match k with
  | 0 => ("MarshBells$Day", "held", "LMarshBells$Held;", true)
  | 1 => ("MarshBells$Day", "begins", "[I", true)
  | 2 => ("MarshBells$Day", "ends", "[I", true)
  | 3 => ("MarshBells$Day", "runsOver", "[I", true)
  | 4 => ("MarshBells$Day", "byWhom", "[I", true)
  | 5 => ("MarshBells$Day", "comings", "[I", true)
  | 6 => ("MarshBells$Day", "values", "[I", true)
  | 7 => ("MarshBells$Day", "plan", "LMarshBells$Plan;", false)
  | 8 => ("MarshBells$Day", "running", "I", false)
  | _ => ("MarshBells$Day", "wide", "I", false)
def tyX1 : Nat → FieldType := fun k => match k with
  | 0 => .object "MarshBells$Held"
  | 1 => .array .int
  | 2 => .array .int
  | 3 => .array .int
  | 4 => .array .int
  | 5 => .array .int
  | 6 => .array .int
  | 7 => .object "MarshBells$Plan"
  | 8 => .int
  | _ => .int
abbrev wsX10 : List Cond := u_ws RX1 TX1 10
theorem nmX1 : ∀ a, a < 10 → ∀ b, b < 10 → a ≠ b → (TX1 a).2.1 ≠ (TX1 b).2.1 := by decide +kernel
theorem tyX1_ok : ∀ k, k < 10 → parseFieldDescriptor (TX1 k).2.2.1 = some (tyX1 k) := by decide +kernel
abbrev cX1_init : ByteArray := prog_3_method_1_code
def yX1_init : MethodName := ⟨RX1, "<init>", "(LMarshBells$Plan;LMarshBells$Held;)V"⟩
abbrev cX1_runFrom : ByteArray := prog_3_method_2_code
def yX1_runFrom : MethodName := ⟨RX1, "runFrom", "(I)V"⟩
abbrev cX1_lostFrom : ByteArray := prog_3_method_3_code
def yX1_lostFrom : MethodName := ⟨RX1, "lostFrom", "(I)I"⟩
abbrev cX1_runOne : ByteArray := prog_3_method_4_code
def yX1_runOne : MethodName := ⟨RX1, "runOne", "(I)V"⟩
abbrev cX1_begin : ByteArray := prog_3_method_5_code
def yX1_begin : MethodName := ⟨RX1, "begin", "(ILMarshBells$Lesson;)V"⟩
abbrev cX1_way : ByteArray := prog_3_method_6_code
def yX1_way : MethodName := ⟨RX1, "way", "(II)I"⟩
abbrev cX1_isUpstairs : ByteArray := prog_3_method_7_code
def yX1_isUpstairs : MethodName := ⟨RX1, "isUpstairs", "(I)Z"⟩
abbrev cX1_comingOf : ByteArray := prog_3_method_8_code
def yX1_comingOf : MethodName := ⟨RX1, "comingOf", "(III)I"⟩
abbrev cX1_firstComingAt : ByteArray := prog_3_method_9_code
def yX1_firstComingAt : MethodName := ⟨RX1, "firstComingAt", "(ILMarshBells$Lesson;)I"⟩
abbrev cX1_overrun : ByteArray := prog_3_method_10_code
def yX1_overrun : MethodName := ⟨RX1, "overrun", "(ILMarshBells$Lesson;)I"⟩
abbrev cX1_late : ByteArray := prog_3_method_11_code
def yX1_late : MethodName := ⟨RX1, "late", "(I)I"⟩
abbrev cX1_lost : ByteArray := prog_3_method_12_code
def yX1_lost : MethodName := ⟨RX1, "lost", "()I"⟩
abbrev cX1_lateOnes : ByteArray := prog_3_method_13_code
def yX1_lateOnes : MethodName := ⟨RX1, "lateOnes", "()I"⟩
abbrev cX1_latest : ByteArray := prog_3_method_14_code
def yX1_latest : MethodName := ⟨RX1, "latest", "()I"⟩
abbrev cX1_begunLater : ByteArray := prog_3_method_15_code
def yX1_begunLater : MethodName := ⟨RX1, "begunLater", "()I"⟩
abbrev cX1_onBits : ByteArray := prog_3_method_16_code
def yX1_onBits : MethodName := ⟨RX1, "onBits", "(I)I"⟩
abbrev cX1_clashOf : ByteArray := prog_3_method_17_code
def yX1_clashOf : MethodName := ⟨RX1, "clashOf", "(II)I"⟩
abbrev cX1_clashes : ByteArray := prog_3_method_18_code
def yX1_clashes : MethodName := ⟨RX1, "clashes", "()I"⟩
abbrev cX1_firstClash : ByteArray := prog_3_method_19_code
def yX1_firstClash : MethodName := ⟨RX1, "firstClash", "()I"⟩
abbrev cX1_idleMinutes : ByteArray := prog_3_method_20_code
def yX1_idleMinutes : MethodName := ⟨RX1, "idleMinutes", "()I"⟩
def RX2 : String := "MarshBells$GapSearch"
def TX2 : u_T := fun k => match k with
  | 0 => ("MarshBells$GapSearch", "day", "LMarshBells$Day;", true)
  | 1 => ("MarshBells$GapSearch", "held", "LMarshBells$Held;", true)
  | 2 => ("MarshBells$GapSearch", "own", "[I", true)
  | 3 => ("MarshBells$GapSearch", "found", "[I", true)
  | 4 => ("MarshBells$GapSearch", "set", "I", false)
  | 5 => ("MarshBells$GapSearch", "goal", "I", false)
  | 6 => ("MarshBells$GapSearch", "late", "I", false)
  | 7 => ("MarshBells$GapSearch", "asked", "I", false)
  | _ => ("MarshBells$GapSearch", "fewest", "I", false)
def tyX2 : Nat → FieldType := fun k => match k with
  | 0 => .object "MarshBells$Day"
  | 1 => .object "MarshBells$Held"
  | 2 => .array .int
  | 3 => .array .int
  | 4 => .int
  | 5 => .int
  | 6 => .int
  | 7 => .int
  | _ => .int
abbrev wsX20 : List Cond := u_ws RX2 TX2 9
theorem nmX2 : ∀ a, a < 9 → ∀ b, b < 9 → a ≠ b → (TX2 a).2.1 ≠ (TX2 b).2.1 := by decide +kernel
theorem tyX2_ok : ∀ k, k < 9 → parseFieldDescriptor (TX2 k).2.2.1 = some (tyX2 k) := by decide +kernel
abbrev cX2_init : ByteArray := prog_4_method_1_code
def yX2_init : MethodName := ⟨RX2, "<init>", "(LMarshBells$Day;)V"⟩
abbrev cX2_fewest : ByteArray := prog_4_method_2_code
def yX2_fewest : MethodName := ⟨RX2, "fewest", "(III)I"⟩
abbrev cX2_findAsked : ByteArray := prog_4_method_3_code
def yX2_findAsked : MethodName := ⟨RX2, "findAsked", "()V"⟩
abbrev cX2_isIn : ByteArray := prog_4_method_4_code
def yX2_isIn : MethodName := ⟨RX2, "isIn", "(II)Z"⟩
abbrev cX2_tryFrom : ByteArray := prog_4_method_5_code
def yX2_tryFrom : MethodName := ⟨RX2, "tryFrom", "(II)V"⟩
abbrev cX2_tryGapsOf : ByteArray := prog_4_method_6_code
def yX2_tryGapsOf : MethodName := ⟨RX2, "tryGapsOf", "(II)V"⟩
abbrev cX2_takeIfOnTime : ByteArray := prog_4_method_7_code
def yX2_takeIfOnTime : MethodName := ⟨RX2, "takeIfOnTime", "(I)V"⟩
def RX3 : String := "MarshBells$Held"
def TX3 : u_T := fun k => match k with
  | 0 => ("MarshBells$Held", "overs", "[I", true)
  | 1 => ("MarshBells$Held", "gaps", "[I", true)
  | 2 => ("MarshBells$Held", "rooms", "[I", true)
  | 3 => ("MarshBells$Held", "limits", "[I", true)
  | 4 => ("MarshBells$Held", "actKinds", "[I", true)
  | 5 => ("MarshBells$Held", "actLessons", "[I", true)
  | 6 => ("MarshBells$Held", "actOlds", "[I", true)
  | 7 => ("MarshBells$Held", "seenLessons", "[I", true)
  | 8 => ("MarshBells$Held", "seenLates", "[I", true)
  | 9 => ("MarshBells$Held", "acts", "I", false)
  | 10 => ("MarshBells$Held", "seen", "I", false)
  | _ => ("MarshBells$Held", "rule", "I", false)
def tyX3 : Nat → FieldType := fun k => match k with
  | 0 => .array .int
  | 1 => .array .int
  | 2 => .array .int
  | 3 => .array .int
  | 4 => .array .int
  | 5 => .array .int
  | 6 => .array .int
  | 7 => .array .int
  | 8 => .array .int
  | 9 => .int
  | 10 => .int
  | _ => .int
abbrev wsX30 : List Cond := u_ws RX3 TX3 12
theorem nmX3 : ∀ a, a < 12 → ∀ b, b < 12 → a ≠ b → (TX3 a).2.1 ≠ (TX3 b).2.1 := by decide +kernel
theorem tyX3_ok : ∀ k, k < 12 → parseFieldDescriptor (TX3 k).2.2.1 = some (tyX3 k) := by decide +kernel
abbrev cX3_init : ByteArray := prog_5_method_1_code
def yX3_init : MethodName := ⟨RX3, "<init>", "()V"⟩
abbrev cX3_start : ByteArray := prog_5_method_2_code
def yX3_start : MethodName := ⟨RX3, "start", "(LMarshBells$Plan;)V"⟩
abbrev cX3_copy : ByteArray := prog_5_method_3_code
def yX3_copy : MethodName := ⟨RX3, "copy", "(LMarshBells$Held;)V"⟩
abbrev cX3_row : ByteArray := prog_5_method_4_code
def yX3_row : MethodName := ⟨RX3, "row", "(I)[I"⟩
abbrev cX3_value : ByteArray := prog_5_method_5_code
def yX3_value : MethodName := ⟨RX3, "value", "(II)I"⟩
abbrev cX3_put : ByteArray := prog_5_method_6_code
def yX3_put : MethodName := ⟨RX3, "put", "(III)V"⟩
abbrev cX3_keepAct : ByteArray := prog_5_method_7_code
def yX3_keepAct : MethodName := ⟨RX3, "keepAct", "(III)V"⟩
abbrev cX3_dropFirstAct : ByteArray := prog_5_method_8_code
def yX3_dropFirstAct : MethodName := ⟨RX3, "dropFirstAct", "()V"⟩
abbrev cX3_takeBackAct : ByteArray := prog_5_method_9_code
def yX3_takeBackAct : MethodName := ⟨RX3, "takeBackAct", "()I"⟩
abbrev cX3_keepSeen : ByteArray := prog_5_method_10_code
def yX3_keepSeen : MethodName := ⟨RX3, "keepSeen", "(II)V"⟩
def RX4 : String := "MarshBells$Least"
def TX4 : u_T := fun k => match k with
  | 0 => ("MarshBells$Least", "any", "Z", false)
  | 1 => ("MarshBells$Least", "offered", "I", false)
  | _ => ("MarshBells$Least", "lost", "I", false)
def tyX4 : Nat → FieldType := fun k => match k with
  | 0 => .boolean
  | 1 => .int
  | _ => .int
abbrev wsX40 : List Cond := u_ws RX4 TX4 3
theorem nmX4 : ∀ a, a < 3 → ∀ b, b < 3 → a ≠ b → (TX4 a).2.1 ≠ (TX4 b).2.1 := by decide +kernel
theorem tyX4_ok : ∀ k, k < 3 → parseFieldDescriptor (TX4 k).2.2.1 = some (tyX4 k) := by decide +kernel
abbrev cX4_init : ByteArray := prog_6_method_1_code
def yX4_init : MethodName := ⟨RX4, "<init>", "()V"⟩
abbrev cX4_clear : ByteArray := prog_6_method_2_code
def yX4_clear : MethodName := ⟨RX4, "clear", "()V"⟩
abbrev cX4_offer : ByteArray := prog_6_method_3_code
def yX4_offer : MethodName := ⟨RX4, "offer", "(II)V"⟩
abbrev cX4_told : ByteArray := prog_6_method_4_code
def yX4_told : MethodName := ⟨RX4, "told", "(I)I"⟩
def RX5 : String := "MarshBells$Lesson"
def TX5 : u_T := fun k => match k with
  | 0 => ("MarshBells$Lesson", "waitedFor", "[I", true)
  | 1 => ("MarshBells$Lesson", "waited", "I", false)
  | 2 => ("MarshBells$Lesson", "waitedBits", "I", false)
  | 3 => ("MarshBells$Lesson", "from", "I", false)
  | 4 => ("MarshBells$Lesson", "to", "I", false)
  | 5 => ("MarshBells$Lesson", "least", "I", false)
  | 6 => ("MarshBells$Lesson", "over", "I", false)
  | 7 => ("MarshBells$Lesson", "room", "I", false)
  | 8 => ("MarshBells$Lesson", "people", "I", false)
  | 9 => ("MarshBells$Lesson", "sort", "I", false)
  | 10 => ("MarshBells$Lesson", "some", "I", false)
  | 11 => ("MarshBells$Lesson", "limit", "I", false)
  | 12 => ("MarshBells$Lesson", "maybe", "I", false)
  | _ => ("MarshBells$Lesson", "gap", "I", false)
def tyX5 : Nat → FieldType := fun k => match k with
  | 0 => .array .int
  | 1 => .int
  | 2 => .int
  | 3 => .int
  | 4 => .int
  | 5 => .int
  | 6 => .int
  | 7 => .int
  | 8 => .int
  | 9 => .int
  | 10 => .int
  | 11 => .int
  | 12 => .int
  | _ => .int
abbrev wsX50 : List Cond := u_ws RX5 TX5 14
theorem nmX5 : ∀ a, a < 14 → ∀ b, b < 14 → a ≠ b → (TX5 a).2.1 ≠ (TX5 b).2.1 := by decide +kernel
theorem tyX5_ok : ∀ k, k < 14 → parseFieldDescriptor (TX5 k).2.2.1 = some (tyX5 k) := by decide +kernel
abbrev cX5_init : ByteArray := prog_7_method_1_code
def yX5_init : MethodName := ⟨RX5, "<init>", "()V"⟩
abbrev cX5_clear : ByteArray := prog_7_method_2_code
def yX5_clear : MethodName := ⟨RX5, "clear", "()V"⟩
abbrev cX5_waitFor : ByteArray := prog_7_method_3_code
def yX5_waitFor : MethodName := ⟨RX5, "waitFor", "(I)V"⟩
def RX6 : String := "MarshBells$Parser"
def TX6 : u_T := fun k => match k with
  | 0 => ("MarshBells$Parser", "bytes", "[I", true)
  | 1 => ("MarshBells$Parser", "plan", "LMarshBells$Plan;", false)
  | 2 => ("MarshBells$Parser", "length", "I", false)
  | 3 => ("MarshBells$Parser", "next", "I", false)
  | 4 => ("MarshBells$Parser", "kind", "I", false)
  | 5 => ("MarshBells$Parser", "place", "I", false)
  | 6 => ("MarshBells$Parser", "number", "I", false)
  | 7 => ("MarshBells$Parser", "fault", "I", false)
  | 8 => ("MarshBells$Parser", "faultPlace", "I", false)
  | 9 => ("MarshBells$Parser", "walkTold", "Z", false)
  | _ => ("MarshBells$Parser", "stairTold", "Z", false)
def tyX6 : Nat → FieldType := fun k => match k with
  | 0 => .array .int
  | 1 => .object "MarshBells$Plan"
  | 2 => .int
  | 3 => .int
  | 4 => .int
  | 5 => .int
  | 6 => .int
  | 7 => .int
  | 8 => .int
  | 9 => .boolean
  | _ => .boolean
abbrev wsX60 : List Cond := u_ws RX6 TX6 11
theorem nmX6 : ∀ a, a < 11 → ∀ b, b < 11 → a ≠ b → (TX6 a).2.1 ≠ (TX6 b).2.1 := by decide +kernel
theorem tyX6_ok : ∀ k, k < 11 → parseFieldDescriptor (TX6 k).2.2.1 = some (tyX6 k) := by decide +kernel
abbrev cX6_init : ByteArray := prog_8_method_1_code
def yX6_init : MethodName := ⟨RX6, "<init>", "([ILMarshBells$Plan;)V"⟩
abbrev cX6_read : ByteArray := prog_8_method_2_code
def yX6_read : MethodName := ⟨RX6, "read", "(ILMarshBells$Plan;)V"⟩
abbrev cX6_refuse : ByteArray := prog_8_method_3_code
def yX6_refuse : MethodName := ⟨RX6, "refuse", "(I)V"⟩
abbrev cX6_advance : ByteArray := prog_8_method_4_code
def yX6_advance : MethodName := ⟨RX6, "advance", "()V"⟩
abbrev cX6_kindOf : ByteArray := prog_8_method_5_code
def yX6_kindOf : MethodName := ⟨RX6, "kindOf", "(I)I"⟩
abbrev cX6_isWord : ByteArray := prog_8_method_6_code
def yX6_isWord : MethodName := ⟨RX6, "isWord", "(Ljava/lang/String;)Z"⟩
abbrev cX6_isSignNow : ByteArray := prog_8_method_7_code
def yX6_isSignNow : MethodName := ⟨RX6, "isSignNow", "(C)Z"⟩
abbrev cX6_isTooLong : ByteArray := prog_8_method_8_code
def yX6_isTooLong : MethodName := ⟨RX6, "isTooLong", "()Z"⟩
abbrev cX6_readNumber : ByteArray := prog_8_method_9_code
def yX6_readNumber : MethodName := ⟨RX6, "readNumber", "(II)I"⟩
abbrev cX6_readSign : ByteArray := prog_8_method_10_code
def yX6_readSign : MethodName := ⟨RX6, "readSign", "(C)V"⟩
abbrev cX6_readLine : ByteArray := prog_8_method_11_code
def yX6_readLine : MethodName := ⟨RX6, "readLine", "()V"⟩
abbrev cX6_readWalk : ByteArray := prog_8_method_12_code
def yX6_readWalk : MethodName := ⟨RX6, "readWalk", "()V"⟩
abbrev cX6_readStair : ByteArray := prog_8_method_13_code
def yX6_readStair : MethodName := ⟨RX6, "readStair", "()V"⟩
abbrev cX6_readRule : ByteArray := prog_8_method_14_code
def yX6_readRule : MethodName := ⟨RX6, "readRule", "()V"⟩
abbrev cX6_readLesson : ByteArray := prog_8_method_15_code
def yX6_readLesson : MethodName := ⟨RX6, "readLesson", "()V"⟩
abbrev cX6_readOption : ByteArray := prog_8_method_16_code
def yX6_readOption : MethodName := ⟨RX6, "readOption", "(Ljava/lang/String;II)I"⟩
abbrev cX6_readWaited : ByteArray := prog_8_method_17_code
def yX6_readWaited : MethodName := ⟨RX6, "readWaited", "(LMarshBells$Lesson;)V"⟩
abbrev cX6_readExpr : ByteArray := prog_8_method_18_code
def yX6_readExpr : MethodName := ⟨RX6, "readExpr", "(I)V"⟩
abbrev cX6_readAnd : ByteArray := prog_8_method_19_code
def yX6_readAnd : MethodName := ⟨RX6, "readAnd", "(I)V"⟩
abbrev cX6_readNot : ByteArray := prog_8_method_20_code
def yX6_readNot : MethodName := ⟨RX6, "readNot", "(I)V"⟩
abbrev cX6_readTest : ByteArray := prog_8_method_21_code
def yX6_readTest : MethodName := ⟨RX6, "readTest", "(I)V"⟩
abbrev cX6_readSum : ByteArray := prog_8_method_22_code
def yX6_readSum : MethodName := ⟨RX6, "readSum", "(I)V"⟩
abbrev cX6_readProduct : ByteArray := prog_8_method_23_code
def yX6_readProduct : MethodName := ⟨RX6, "readProduct", "(I)V"⟩
abbrev cX6_readPart : ByteArray := prog_8_method_24_code
def yX6_readPart : MethodName := ⟨RX6, "readPart", "(I)V"⟩
abbrev cX6_valueNow : ByteArray := prog_8_method_25_code
def yX6_valueNow : MethodName := ⟨RX6, "valueNow", "()I"⟩
def RX7 : String := "MarshBells$Plan"
def TX7 : u_T := fun k => match k with
  | 0 => ("MarshBells$Plan", "lessons", "[LMarshBells$Lesson;", true)
  | 1 => ("MarshBells$Plan", "rules", "LMarshBells$Rules;", true)
  | 2 => ("MarshBells$Plan", "lessonCount", "I", false)
  | 3 => ("MarshBells$Plan", "walk", "I", false)
  | _ => ("MarshBells$Plan", "stair", "I", false)
def tyX7 : Nat → FieldType := fun k => match k with
  | 0 => .array (.object "MarshBells$Lesson")
  | 1 => .object "MarshBells$Rules"
  | 2 => .int
  | 3 => .int
  | _ => .int
abbrev wsX70 : List Cond := u_ws RX7 TX7 5
theorem nmX7 : ∀ a, a < 5 → ∀ b, b < 5 → a ≠ b → (TX7 a).2.1 ≠ (TX7 b).2.1 := by decide +kernel
theorem tyX7_ok : ∀ k, k < 5 → parseFieldDescriptor (TX7 k).2.2.1 = some (tyX7 k) := by decide +kernel
abbrev cX7_init : ByteArray := prog_9_method_1_code
def yX7_init : MethodName := ⟨RX7, "<init>", "()V"⟩
abbrev cX7_clear : ByteArray := prog_9_method_2_code
def yX7_clear : MethodName := ⟨RX7, "clear", "()V"⟩
def RX8 : String := "MarshBells$Rules"
def TX8 : u_T := fun k => match k with
  | 0 => ("MarshBells$Rules", "steps", "[I", true)
  | 1 => ("MarshBells$Rules", "bounds", "[I", true)
  | 2 => ("MarshBells$Rules", "stack", "[I", true)
  | 3 => ("MarshBells$Rules", "size", "I", false)
  | _ => ("MarshBells$Rules", "used", "I", false)
def tyX8 : Nat → FieldType := fun k => match k with
  | 0 => .array .int
  | 1 => .array .int
  | 2 => .array .int
  | 3 => .int
  | _ => .int
abbrev wsX80 : List Cond := u_ws RX8 TX8 5
theorem nmX8 : ∀ a, a < 5 → ∀ b, b < 5 → a ≠ b → (TX8 a).2.1 ≠ (TX8 b).2.1 := by decide +kernel
theorem tyX8_ok : ∀ k, k < 5 → parseFieldDescriptor (TX8 k).2.2.1 = some (tyX8 k) := by decide +kernel
abbrev cX8_init : ByteArray := prog_10_method_1_code
def yX8_init : MethodName := ⟨RX8, "<init>", "()V"⟩
abbrev cX8_clear : ByteArray := prog_10_method_2_code
def yX8_clear : MethodName := ⟨RX8, "clear", "()V"⟩
abbrev cX8_add : ByteArray := prog_10_method_3_code
def yX8_add : MethodName := ⟨RX8, "add", "(I)V"⟩
abbrev cX8_close : ByteArray := prog_10_method_4_code
def yX8_close : MethodName := ⟨RX8, "close", "()V"⟩
abbrev cX8_value : ByteArray := prog_10_method_5_code
def yX8_value : MethodName := ⟨RX8, "value", "(I[I)I"⟩
abbrev cX8_joined : ByteArray := prog_10_method_6_code
def yX8_joined : MethodName := ⟨RX8, "joined", "(III)I"⟩
def RX9 : String := "MarshBells$Stair"
def TX9 : u_T := fun k => match k with
  | 0 => ("MarshBells$Stair", "day", "LMarshBells$Day;", true)
  | 1 => ("MarshBells$Stair", "starts", "[I", true)
  | 2 => ("MarshBells$Stair", "ends", "[I", true)
  | 3 => ("MarshBells$Stair", "people", "[I", true)
  | 4 => ("MarshBells$Stair", "up", "[Z", true)
  | _ => ("MarshBells$Stair", "ways", "I", false)
def tyX9 : Nat → FieldType := fun k => match k with
  | 0 => .object "MarshBells$Day"
  | 1 => .array .int
  | 2 => .array .int
  | 3 => .array .int
  | 4 => .array .boolean
  | _ => .int
abbrev wsX90 : List Cond := u_ws RX9 TX9 6
theorem nmX9 : ∀ a, a < 6 → ∀ b, b < 6 → a ≠ b → (TX9 a).2.1 ≠ (TX9 b).2.1 := by decide +kernel
theorem tyX9_ok : ∀ k, k < 6 → parseFieldDescriptor (TX9 k).2.2.1 = some (tyX9 k) := by decide +kernel
abbrev cX9_init : ByteArray := prog_11_method_1_code
def yX9_init : MethodName := ⟨RX9, "<init>", "(LMarshBells$Day;)V"⟩
abbrev cX9_gather : ByteArray := prog_11_method_2_code
def yX9_gather : MethodName := ⟨RX9, "gather", "()V"⟩
abbrev cX9_addWay : ByteArray := prog_11_method_3_code
def yX9_addWay : MethodName := ⟨RX9, "addWay", "(II)V"⟩
abbrev cX9_crossings : ByteArray := prog_11_method_4_code
def yX9_crossings : MethodName := ⟨RX9, "crossings", "()I"⟩
abbrev cX9_peopleIn : ByteArray := prog_11_method_5_code
def yX9_peopleIn : MethodName := ⟨RX9, "peopleIn", "(I)I"⟩
abbrev cX9_busiestMinute : ByteArray := prog_11_method_6_code
def yX9_busiestMinute : MethodName := ⟨RX9, "busiestMinute", "()I"⟩
def RX10 : String := "MarshBells$Trials"
def TX10 : u_T := fun k => match k with
  | 0 => ("MarshBells$Trials", "day", "LMarshBells$Day;", true)
  | 1 => ("MarshBells$Trials", "held", "LMarshBells$Held;", true)
  | 2 => ("MarshBells$Trials", "least", "LMarshBells$Least;", true)
  | 3 => ("MarshBells$Trials", "saved", "[I", true)
  | 4 => ("MarshBells$Trials", "fitting", "I", false)
  | 5 => ("MarshBells$Trials", "firstFitting", "I", false)
  | _ => ("MarshBells$Trials", "surely", "I", false)
def tyX10 : Nat → FieldType := fun k => match k with
  | 0 => .object "MarshBells$Day"
  | 1 => .object "MarshBells$Held"
  | 2 => .object "MarshBells$Least"
  | 3 => .array .int
  | 4 => .int
  | 5 => .int
  | _ => .int
abbrev wsX100 : List Cond := u_ws RX10 TX10 7
theorem nmX10 : ∀ a, a < 7 → ∀ b, b < 7 → a ≠ b → (TX10 a).2.1 ≠ (TX10 b).2.1 := by decide +kernel
theorem tyX10_ok : ∀ k, k < 7 → parseFieldDescriptor (TX10 k).2.2.1 = some (tyX10 k) := by decide +kernel
abbrev cX10_init : ByteArray := prog_12_method_1_code
def yX10_init : MethodName := ⟨RX10, "<init>", "(LMarshBells$Day;)V"⟩
abbrev cX10_lessonCount : ByteArray := prog_12_method_2_code
def yX10_lessonCount : MethodName := ⟨RX10, "lessonCount", "()I"⟩
abbrev cX10_keepEnds : ByteArray := prog_12_method_3_code
def yX10_keepEnds : MethodName := ⟨RX10, "keepEnds", "()V"⟩
abbrev cX10_runMore : ByteArray := prog_12_method_4_code
def yX10_runMore : MethodName := ⟨RX10, "runMore", "(II)V"⟩
abbrev cX10_laterBits : ByteArray := prog_12_method_5_code
def yX10_laterBits : MethodName := ⟨RX10, "laterBits", "()I"⟩
abbrev cX10_laterMinutes : ByteArray := prog_12_method_6_code
def yX10_laterMinutes : MethodName := ⟨RX10, "laterMinutes", "()I"⟩
abbrev cX10_leastThatReaches : ByteArray := prog_12_method_7_code
def yX10_leastThatReaches : MethodName := ⟨RX10, "leastThatReaches", "(II)I"⟩
abbrev cX10_mostThatDies : ByteArray := prog_12_method_8_code
def yX10_mostThatDies : MethodName := ⟨RX10, "mostThatDies", "(I)I"⟩
abbrev cX10_exchange : ByteArray := prog_12_method_9_code
def yX10_exchange : MethodName := ⟨RX10, "exchange", "(II)V"⟩
abbrev cX10_swapped : ByteArray := prog_12_method_10_code
def yX10_swapped : MethodName := ⟨RX10, "swapped", "(I)I"⟩
abbrev cX10_leastBy : ByteArray := prog_12_method_11_code
def yX10_leastBy : MethodName := ⟨RX10, "leastBy", "(III)I"⟩
abbrev cX10_withoutOne : ByteArray := prog_12_method_12_code
def yX10_withoutOne : MethodName := ⟨RX10, "withoutOne", "()I"⟩
abbrev cX10_withoutTwo : ByteArray := prog_12_method_13_code
def yX10_withoutTwo : MethodName := ⟨RX10, "withoutTwo", "(I)I"⟩
abbrev cX10_lostWithout : ByteArray := prog_12_method_14_code
def yX10_lostWithout : MethodName := ⟨RX10, "lostWithout", "(II)I"⟩
abbrev cX10_lostByRule : ByteArray := prog_12_method_15_code
def yX10_lostByRule : MethodName := ⟨RX10, "lostByRule", "(I)I"⟩
abbrev cX10_bestRule : ByteArray := prog_12_method_16_code
def yX10_bestRule : MethodName := ⟨RX10, "bestRule", "()I"⟩
abbrev cX10_worthOfBell : ByteArray := prog_12_method_17_code
def yX10_worthOfBell : MethodName := ⟨RX10, "worthOfBell", "(I)I"⟩
abbrev cX10_findBeginners : ByteArray := prog_12_method_18_code
def yX10_findBeginners : MethodName := ⟨RX10, "findBeginners", "()V"⟩
abbrev cX10_isAsSeen : ByteArray := prog_12_method_19_code
def yX10_isAsSeen : MethodName := ⟨RX10, "isAsSeen", "()Z"⟩
abbrev cX10_addBeginner : ByteArray := prog_12_method_20_code
def yX10_addBeginner : MethodName := ⟨RX10, "addBeginner", "(II)V"⟩
abbrev cX10_leastByShift : ByteArray := prog_12_method_21_code
def yX10_leastByShift : MethodName := ⟨RX10, "leastByShift", "(II)I"⟩
abbrev cX10_harmDone : ByteArray := prog_12_method_22_code
def yX10_harmDone : MethodName := ⟨RX10, "harmDone", "(II)I"⟩
abbrev cX10_leastByPause : ByteArray := prog_12_method_23_code
def yX10_leastByPause : MethodName := ⟨RX10, "leastByPause", "(II)I"⟩
abbrev cX10_addGapFrom : ByteArray := prog_12_method_24_code
def yX10_addGapFrom : MethodName := ⟨RX10, "addGapFrom", "(II)V"⟩
def RX11 : String := "MarshBells"
def TX11 : u_T := fun k => match k with
  | 0 => ("MarshBells", "tape", "[I", true)
  | 1 => ("MarshBells", "refused", "[I", true)
  | 2 => ("MarshBells", "keptGaps", "[I", true)
  | 3 => ("MarshBells", "plan", "LMarshBells$Plan;", false)
  | 4 => ("MarshBells", "spare", "LMarshBells$Plan;", false)
  | 5 => ("MarshBells", "parser", "LMarshBells$Parser;", true)
  | 6 => ("MarshBells", "held", "LMarshBells$Held;", true)
  | 7 => ("MarshBells", "kept", "LMarshBells$Held;", true)
  | 8 => ("MarshBells", "today", "LMarshBells$Day;", true)
  | 9 => ("MarshBells", "trials", "LMarshBells$Trials;", true)
  | 10 => ("MarshBells", "search", "LMarshBells$GapSearch;", true)
  | 11 => ("MarshBells", "chances", "LMarshBells$Chances;", true)
  | 12 => ("MarshBells", "stairs", "LMarshBells$Stair;", true)
  | 13 => ("MarshBells", "taped", "I", false)
  | 14 => ("MarshBells", "faultPlace", "I", false)
  | 15 => ("MarshBells", "hasImage", "Z", false)
  | _ => ("MarshBells", "hasGaps", "Z", false)
def tyX11 : Nat → FieldType := fun k => match k with
  | 0 => .array .int
  | 1 => .array .int
  | 2 => .array .int
  | 3 => .object "MarshBells$Plan"
  | 4 => .object "MarshBells$Plan"
  | 5 => .object "MarshBells$Parser"
  | 6 => .object "MarshBells$Held"
  | 7 => .object "MarshBells$Held"
  | 8 => .object "MarshBells$Day"
  | 9 => .object "MarshBells$Trials"
  | 10 => .object "MarshBells$GapSearch"
  | 11 => .object "MarshBells$Chances"
  | 12 => .object "MarshBells$Stair"
  | 13 => .int
  | 14 => .int
  | 15 => .boolean
  | _ => .boolean
abbrev wsX110 : List Cond := u_ws RX11 TX11 17
theorem nmX11 : ∀ a, a < 17 → ∀ b, b < 17 → a ≠ b → (TX11 a).2.1 ≠ (TX11 b).2.1 := by decide +kernel
theorem tyX11_ok : ∀ k, k < 17 → parseFieldDescriptor (TX11 k).2.2.1 = some (tyX11 k) := by decide +kernel
abbrev cX11_init : ByteArray := prog_1_method_1_code
def yX11_init : MethodName := ⟨RX11, "<init>", "()V"⟩
abbrev cX11_feed : ByteArray := prog_1_method_2_code
def yX11_feed : MethodName := ⟨RX11, "feed", "(IIIII)I"⟩
abbrev cX11_house : ByteArray := prog_1_method_3_code
def yX11_house : MethodName := ⟨RX11, "house", "(I)I"⟩
abbrev cX11_fault : ByteArray := prog_1_method_4_code
def yX11_fault : MethodName := ⟨RX11, "fault", "()I"⟩
abbrev cX11_count : ByteArray := prog_1_method_5_code
def yX11_count : MethodName := ⟨RX11, "count", "(I)I"⟩
abbrev cX11_lesson : ByteArray := prog_1_method_6_code
def yX11_lesson : MethodName := ⟨RX11, "lesson", "(II)I"⟩
abbrev cX11_day : ByteArray := prog_1_method_7_code
def yX11_day : MethodName := ⟨RX11, "day", "(II)I"⟩
abbrev cX11_chain : ByteArray := prog_1_method_8_code
def yX11_chain : MethodName := ⟨RX11, "chain", "(II)I"⟩
abbrev cX11_become : ByteArray := prog_1_method_9_code
def yX11_become : MethodName := ⟨RX11, "become", "(III)I"⟩
abbrev cX11_obey : ByteArray := prog_1_method_10_code
def yX11_obey : MethodName := ⟨RX11, "obey", "(I)Z"⟩
abbrev cX11_undo : ByteArray := prog_1_method_11_code
def yX11_undo : MethodName := ⟨RX11, "undo", "()I"⟩
abbrev cX11_far : ByteArray := prog_1_method_12_code
def yX11_far : MethodName := ⟨RX11, "far", "(III)I"⟩
abbrev cX11_reaches : ByteArray := prog_1_method_13_code
def yX11_reaches : MethodName := ⟨RX11, "reaches", "(II)I"⟩
abbrev cX11_slack : ByteArray := prog_1_method_14_code
def yX11_slack : MethodName := ⟨RX11, "slack", "(I)I"⟩
abbrev cX11_gaps : ByteArray := prog_1_method_15_code
def yX11_gaps : MethodName := ⟨RX11, "gaps", "(III)I"⟩
abbrev cX11_gap : ByteArray := prog_1_method_16_code
def yX11_gap : MethodName := ⟨RX11, "gap", "(I)I"⟩
abbrev cX11_chance : ByteArray := prog_1_method_17_code
def yX11_chance : MethodName := ⟨RX11, "chance", "(III)J"⟩
abbrev cX11_mean : ByteArray := prog_1_method_18_code
def yX11_mean : MethodName := ⟨RX11, "mean", "(II)J"⟩
abbrev cX11_swap : ByteArray := prog_1_method_19_code
def yX11_swap : MethodName := ⟨RX11, "swap", "(I)I"⟩
abbrev cX11_room : ByteArray := prog_1_method_20_code
def yX11_room : MethodName := ⟨RX11, "room", "(II)I"⟩
abbrev cX11_limit : ByteArray := prog_1_method_21_code
def yX11_limit : MethodName := ⟨RX11, "limit", "(II)I"⟩
abbrev cX11_last : ByteArray := prog_1_method_22_code
def yX11_last : MethodName := ⟨RX11, "last", "()I"⟩
abbrev cX11_compare : ByteArray := prog_1_method_23_code
def yX11_compare : MethodName := ⟨RX11, "compare", "(I)I"⟩
abbrev cX11_best : ByteArray := prog_1_method_24_code
def yX11_best : MethodName := ⟨RX11, "best", "()I"⟩
abbrev cX11_bell : ByteArray := prog_1_method_25_code
def yX11_bell : MethodName := ⟨RX11, "bell", "(I)I"⟩
abbrev cX11_see : ByteArray := prog_1_method_26_code
def yX11_see : MethodName := ⟨RX11, "see", "(II)I"⟩
abbrev cX11_forget : ByteArray := prog_1_method_27_code
def yX11_forget : MethodName := ⟨RX11, "forget", "()V"⟩
abbrev cX11_fits : ByteArray := prog_1_method_28_code
def yX11_fits : MethodName := ⟨RX11, "fits", "(I)I"⟩
abbrev cX11_streams : ByteArray := prog_1_method_29_code
def yX11_streams : MethodName := ⟨RX11, "streams", "()I"⟩
abbrev cX11_term : ByteArray := prog_1_method_30_code
def yX11_term : MethodName := ⟨RX11, "term", "(IIII)I"⟩
abbrev cX11_on : ByteArray := prog_1_method_31_code
def yX11_on : MethodName := ⟨RX11, "on", "(II)I"⟩
abbrev cX11_clash : ByteArray := prog_1_method_32_code
def yX11_clash : MethodName := ⟨RX11, "clash", "(I)I"⟩
abbrev cX11_busiest : ByteArray := prog_1_method_33_code
def yX11_busiest : MethodName := ⟨RX11, "busiest", "(I)I"⟩
abbrev cX11_idle : ByteArray := prog_1_method_34_code
def yX11_idle : MethodName := ⟨RX11, "idle", "()I"⟩
abbrev cX11_shift : ByteArray := prog_1_method_35_code
def yX11_shift : MethodName := ⟨RX11, "shift", "(II)I"⟩
abbrev cX11_harm : ByteArray := prog_1_method_36_code
def yX11_harm : MethodName := ⟨RX11, "harm", "(II)I"⟩
abbrev cX11_pair : ByteArray := prog_1_method_37_code
def yX11_pair : MethodName := ⟨RX11, "pair", "(I)I"⟩
abbrev cX11_pause : ByteArray := prog_1_method_38_code
def yX11_pause : MethodName := ⟨RX11, "pause", "(II)I"⟩
abbrev cX11_image : ByteArray := prog_1_method_39_code
def yX11_image : MethodName := ⟨RX11, "image", "()V"⟩
abbrev cX11_restore : ByteArray := prog_1_method_40_code
def yX11_restore : MethodName := ⟨RX11, "restore", "()Z"⟩
abbrev cX11_countOfDay : ByteArray := prog_1_method_41_code
def yX11_countOfDay : MethodName := ⟨RX11, "countOfDay", "(I)I"⟩
abbrev cX11_put : ByteArray := prog_1_method_42_code
def yX11_put : MethodName := ⟨RX11, "put", "(I)V"⟩
abbrev cX11_needLesson : ByteArray := prog_1_method_43_code
def yX11_needLesson : MethodName := ⟨RX11, "needLesson", "(I)V"⟩
abbrev cX11_needWhat : ByteArray := prog_1_method_44_code
def yX11_needWhat : MethodName := ⟨RX11, "needWhat", "(II)V"⟩
abbrev cX11_needWithin : ByteArray := prog_1_method_45_code
def yX11_needWithin : MethodName := ⟨RX11, "needWithin", "(III)V"⟩
abbrev cX11_isRuleOrNone : ByteArray := prog_1_method_46_code
def yX11_isRuleOrNone : MethodName := ⟨RX11, "isRuleOrNone", "(I)Z"⟩
abbrev cX11_mostOf : ByteArray := prog_1_method_47_code
def yX11_mostOf : MethodName := ⟨RX11, "mostOf", "(I)I"⟩
def RX12 : String := "MarshBellsModel"
def TX12 : u_T := fun k => match k with
  | 0 => ("MarshBellsModel", "thrown", "I", false)
  | 1 => ("MarshBellsModel", "lessons", "I", false)
  | 2 => ("MarshBellsModel", "rules", "I", false)
  | 3 => ("MarshBellsModel", "walk", "I", false)
  | 4 => ("MarshBellsModel", "stair", "I", false)
  | 5 => ("MarshBellsModel", "from", "[I", true)
  | 6 => ("MarshBellsModel", "to", "[I", true)
  | 7 => ("MarshBellsModel", "least", "[I", true)
  | 8 => ("MarshBellsModel", "people", "[I", true)
  | 9 => ("MarshBellsModel", "kind", "[I", true)
  | 10 => ("MarshBellsModel", "some", "[I", true)
  | 11 => ("MarshBellsModel", "maybe", "[I", true)
  | 12 => ("MarshBellsModel", "waitsMany", "[I", true)
  | 13 => ("MarshBellsModel", "waitsFor0", "[I", true)
  | 14 => ("MarshBellsModel", "ruleAt", "[I", true)
  | 15 => ("MarshBellsModel", "code", "[I", true)
  | 16 => ("MarshBellsModel", "now", "[I", true)
  | 17 => ("MarshBellsModel", "tape", "[I", true)
  | 18 => ("MarshBellsModel", "taped", "I", false)
  | 19 => ("MarshBellsModel", "faultKind", "I", false)
  | 20 => ("MarshBellsModel", "faultPlace", "I", false)
  | 21 => ("MarshBellsModel", "refused", "[I", true)
  | 22 => ("MarshBellsModel", "long1", "I", false)
  | 23 => ("MarshBellsModel", "next", "I", false)
  | 24 => ("MarshBellsModel", "sort", "I", false)
  | 25 => ("MarshBellsModel", "place", "I", false)
  | 26 => ("MarshBellsModel", "long0", "I", false)
  | 27 => ("MarshBellsModel", "value", "I", false)
  | 28 => ("MarshBellsModel", "sign", "I", false)
  | 29 => ("MarshBellsModel", "word", "J", false)
  | 30 => ("MarshBellsModel", "newLessons", "I", false)
  | 31 => ("MarshBellsModel", "newRules", "I", false)
  | 32 => ("MarshBellsModel", "newWalk", "I", false)
  | 33 => ("MarshBellsModel", "newStair", "I", false)
  | 34 => ("MarshBellsModel", "toldOnce", "I", false)
  | 35 => ("MarshBellsModel", "top", "I", false)
  | 36 => ("MarshBellsModel", "waiting", "I", false)
  | 37 => ("MarshBellsModel", "depth", "I", false)
  | 38 => ("MarshBellsModel", "newFrom", "[I", true)
  | 39 => ("MarshBellsModel", "newTo", "[I", true)
  | 40 => ("MarshBellsModel", "newLeast", "[I", true)
  | 41 => ("MarshBellsModel", "newPeople", "[I", true)
  | 42 => ("MarshBellsModel", "newKind", "[I", true)
  | 43 => ("MarshBellsModel", "newSome", "[I", true)
  | 44 => ("MarshBellsModel", "newMaybe", "[I", true)
  | 45 => ("MarshBellsModel", "newMany", "[I", true)
  | 46 => ("MarshBellsModel", "newFor", "[I", true)
  | 47 => ("MarshBellsModel", "newNow", "[I", true)
  | 48 => ("MarshBellsModel", "newRuleAt", "[I", true)
  | 49 => ("MarshBellsModel", "readCode", "[I", true)
  | 50 => ("MarshBellsModel", "waits", "[I", true)
  | 51 => ("MarshBellsModel", "tested", "[Z", true)
  | 52 => ("MarshBellsModel", "inForce", "I", false)
  | 53 => ("MarshBellsModel", "told", "[I", true)
  | 54 => ("MarshBellsModel", "pile", "[I", true)
  | 55 => ("MarshBellsModel", "begins", "[I", true)
  | 56 => ("MarshBellsModel", "ends", "[I", true)
  | 57 => ("MarshBellsModel", "runs", "[I", true)
  | 58 => ("MarshBellsModel", "byWhom", "[I", true)
  | 59 => ("MarshBellsModel", "coming", "[I", true)
  | 60 => ("MarshBellsModel", "still", "I", false)
  | 61 => ("MarshBellsModel", "great", "I", false)
  | 62 => ("MarshBellsModel", "acts", "I", false)
  | 63 => ("MarshBellsModel", "act", "[I", true)
  | 64 => ("MarshBellsModel", "endsNow", "[I", true)
  | 65 => ("MarshBellsModel", "hasGaps", "Z", false)
  | 66 => ("MarshBellsModel", "gapKept", "[I", true)
  | 67 => ("MarshBellsModel", "gapWas", "[I", true)
  | 68 => ("MarshBellsModel", "inSet", "[I", true)
  | 69 => ("MarshBellsModel", "unsure", "[I", true)
  | 70 => ("MarshBellsModel", "unsureMany", "I", false)
  | 71 => ("MarshBellsModel", "never", "I", false)
  | 72 => ("MarshBellsModel", "then", "[I", true)
  | 73 => ("MarshBellsModel", "seenMany", "I", false)
  | 74 => ("MarshBellsModel", "seen", "[I", true)
  | 75 => ("MarshBellsModel", "wayOf", "[I", true)
  | 76 => ("MarshBellsModel", "wayAt", "[I", true)
  | 77 => ("MarshBellsModel", "wayLong", "[I", true)
  | 78 => ("MarshBellsModel", "wayUp", "[I", true)
  | 79 => ("MarshBellsModel", "wayMany", "I", false)
  | 80 => ("MarshBellsModel", "its", "I", false)
  | 81 => ("MarshBellsModel", "hasImage", "Z", false)
  | 82 => ("MarshBellsModel", "imageForce", "I", false)
  | 83 => ("MarshBellsModel", "imageActs", "I", false)
  | 84 => ("MarshBellsModel", "imageSeen", "I", false)
  | 85 => ("MarshBellsModel", "imageNow", "[I", true)
  | 86 => ("MarshBellsModel", "imageAct", "[I", true)
  | _ => ("MarshBellsModel", "imageSees", "[I", true)
def tyX12 : Nat → FieldType := fun k => match k with
  | 0 => .int
  | 1 => .int
  | 2 => .int
  | 3 => .int
  | 4 => .int
  | 5 => .array .int
  | 6 => .array .int
  | 7 => .array .int
  | 8 => .array .int
  | 9 => .array .int
  | 10 => .array .int
  | 11 => .array .int
  | 12 => .array .int
  | 13 => .array .int
  | 14 => .array .int
  | 15 => .array .int
  | 16 => .array .int
  | 17 => .array .int
  | 18 => .int
  | 19 => .int
  | 20 => .int
  | 21 => .array .int
  | 22 => .int
  | 23 => .int
  | 24 => .int
  | 25 => .int
  | 26 => .int
  | 27 => .int
  | 28 => .int
  | 29 => .long
  | 30 => .int
  | 31 => .int
  | 32 => .int
  | 33 => .int
  | 34 => .int
  | 35 => .int
  | 36 => .int
  | 37 => .int
  | 38 => .array .int
  | 39 => .array .int
  | 40 => .array .int
  | 41 => .array .int
  | 42 => .array .int
  | 43 => .array .int
  | 44 => .array .int
  | 45 => .array .int
  | 46 => .array .int
  | 47 => .array .int
  | 48 => .array .int
  | 49 => .array .int
  | 50 => .array .int
  | 51 => .array .boolean
  | 52 => .int
  | 53 => .array .int
  | 54 => .array .int
  | 55 => .array .int
  | 56 => .array .int
  | 57 => .array .int
  | 58 => .array .int
  | 59 => .array .int
  | 60 => .int
  | 61 => .int
  | 62 => .int
  | 63 => .array .int
  | 64 => .array .int
  | 65 => .boolean
  | 66 => .array .int
  | 67 => .array .int
  | 68 => .array .int
  | 69 => .array .int
  | 70 => .int
  | 71 => .int
  | 72 => .array .int
  | 73 => .int
  | 74 => .array .int
  | 75 => .array .int
  | 76 => .array .int
  | 77 => .array .int
  | 78 => .array .int
  | 79 => .int
  | 80 => .int
  | 81 => .boolean
  | 82 => .int
  | 83 => .int
  | 84 => .int
  | 85 => .array .int
  | 86 => .array .int
  | _ => .array .int
abbrev wsX120 : List Cond := u_ws RX12 TX12 88
theorem nmX12 : ∀ a, a < 88 → ∀ b, b < 88 → a ≠ b → (TX12 a).2.1 ≠ (TX12 b).2.1 := by decide +kernel
theorem tyX12_ok : ∀ k, k < 88 → parseFieldDescriptor (TX12 k).2.2.1 = some (tyX12 k) := by decide +kernel
abbrev cX12_init : ByteArray := prog_14_method_1_code
def yX12_init : MethodName := ⟨RX12, "<init>", "()V"⟩
abbrev cX12_thrown : ByteArray := prog_14_method_2_code
def yX12_thrown : MethodName := ⟨RX12, "thrown", "()I"⟩
abbrev cX12_right : ByteArray := prog_14_method_3_code
def yX12_right : MethodName := ⟨RX12, "right", "(ZI)Z"⟩
abbrev cX12_within : ByteArray := prog_14_method_4_code
def yX12_within : MethodName := ⟨RX12, "within", "(III)Z"⟩
abbrev cX12_off : ByteArray := prog_14_method_5_code
def yX12_off : MethodName := ⟨RX12, "off", "(II)I"⟩
abbrev cX12_copies : ByteArray := prog_14_method_6_code
def yX12_copies : MethodName := ⟨RX12, "copies", "([I[I)V"⟩
abbrev cX12_feed : ByteArray := prog_14_method_7_code
def yX12_feed : MethodName := ⟨RX12, "feed", "(IIIII)I"⟩
abbrev cX12_lays : ByteArray := prog_14_method_8_code
def yX12_lays : MethodName := ⟨RX12, "lays", "(I)V"⟩
abbrev cX12_byteAt : ByteArray := prog_14_method_9_code
def yX12_byteAt : MethodName := ⟨RX12, "byteAt", "(I)I"⟩
abbrev cX12_isLetter : ByteArray := prog_14_method_10_code
def yX12_isLetter : MethodName := ⟨RX12, "isLetter", "(I)Z"⟩
abbrev cX12_isDigit : ByteArray := prog_14_method_11_code
def yX12_isDigit : MethodName := ⟨RX12, "isDigit", "(I)Z"⟩
abbrev cX12_goes : ByteArray := prog_14_method_12_code
def yX12_goes : MethodName := ⟨RX12, "goes", "()V"⟩
abbrev cX12_spelled : ByteArray := prog_14_method_13_code
def yX12_spelled : MethodName := ⟨RX12, "spelled", "(IIIIII)J"⟩
abbrev cX12_letters : ByteArray := prog_14_method_14_code
def yX12_letters : MethodName := ⟨RX12, "letters", "(I)J"⟩
abbrev cX12_knownWord : ByteArray := prog_14_method_15_code
def yX12_knownWord : MethodName := ⟨RX12, "knownWord", "()I"⟩
abbrev cX12_wrong : ByteArray := prog_14_method_16_code
def yX12_wrong : MethodName := ⟨RX12, "wrong", "(I)V"⟩
abbrev cX12_isGood : ByteArray := prog_14_method_17_code
def yX12_isGood : MethodName := ⟨RX12, "isGood", "()Z"⟩
abbrev cX12_isSign : ByteArray := prog_14_method_18_code
def yX12_isSign : MethodName := ⟨RX12, "isSign", "(I)Z"⟩
abbrev cX12_need : ByteArray := prog_14_method_19_code
def yX12_need : MethodName := ⟨RX12, "need", "(Z)V"⟩
abbrev cX12_number : ByteArray := prog_14_method_20_code
def yX12_number : MethodName := ⟨RX12, "number", "(II)I"⟩
abbrev cX12_puts : ByteArray := prog_14_method_21_code
def yX12_puts : MethodName := ⟨RX12, "puts", "(I)V"⟩
abbrev cX12_isOpen : ByteArray := prog_14_method_22_code
def yX12_isOpen : MethodName := ⟨RX12, "isOpen", "(I)Z"⟩
abbrev cX12_strength : ByteArray := prog_14_method_23_code
def yX12_strength : MethodName := ⟨RX12, "strength", "(I)I"⟩
abbrev cX12_drops : ByteArray := prog_14_method_24_code
def yX12_drops : MethodName := ⟨RX12, "drops", "(I)V"⟩
abbrev cX12_waitsFor : ByteArray := prog_14_method_25_code
def yX12_waitsFor : MethodName := ⟨RX12, "waitsFor", "(I)V"⟩
abbrev cX12_part : ByteArray := prog_14_method_26_code
def yX12_part : MethodName := ⟨RX12, "part", "()V"⟩
abbrev cX12_deeper : ByteArray := prog_14_method_27_code
def yX12_deeper : MethodName := ⟨RX12, "deeper", "()V"⟩
abbrev cX12_operand : ByteArray := prog_14_method_28_code
def yX12_operand : MethodName := ⟨RX12, "operand", "(Z)V"⟩
abbrev cX12_isOpened : ByteArray := prog_14_method_29_code
def yX12_isOpened : MethodName := ⟨RX12, "isOpened", "()Z"⟩
abbrev cX12_closes : ByteArray := prog_14_method_30_code
def yX12_closes : MethodName := ⟨RX12, "closes", "()V"⟩
abbrev cX12_expression : ByteArray := prog_14_method_31_code
def yX12_expression : MethodName := ⟨RX12, "expression", "()V"⟩
abbrev cX12_readsWaits : ByteArray := prog_14_method_32_code
def yX12_readsWaits : MethodName := ⟨RX12, "readsWaits", "()V"⟩
abbrev cX12_perhaps : ByteArray := prog_14_method_33_code
def yX12_perhaps : MethodName := ⟨RX12, "perhaps", "(III)I"⟩
abbrev cX12_readsLesson : ByteArray := prog_14_method_34_code
def yX12_readsLesson : MethodName := ⟨RX12, "readsLesson", "()V"⟩
abbrev cX12_line : ByteArray := prog_14_method_35_code
def yX12_line : MethodName := ⟨RX12, "line", "()V"⟩
abbrev cX12_house : ByteArray := prog_14_method_36_code
def yX12_house : MethodName := ⟨RX12, "house", "(I)I"⟩
abbrev cX12_fault : ByteArray := prog_14_method_37_code
def yX12_fault : MethodName := ⟨RX12, "fault", "()I"⟩
abbrev cX12_works : ByteArray := prog_14_method_38_code
def yX12_works : MethodName := ⟨RX12, "works", "(III)I"⟩
abbrev cX12_reckons : ByteArray := prog_14_method_39_code
def yX12_reckons : MethodName := ⟨RX12, "reckons", "(I)I"⟩
abbrev cX12_way : ByteArray := prog_14_method_40_code
def yX12_way : MethodName := ⟨RX12, "way", "(II)I"⟩
abbrev cX12_isStair : ByteArray := prog_14_method_41_code
def yX12_isStair : MethodName := ⟨RX12, "isStair", "(II)Z"⟩
abbrev cX12_comes : ByteArray := prog_14_method_42_code
def yX12_comes : MethodName := ⟨RX12, "comes", "(II)I"⟩
abbrev cX12_thereBy : ByteArray := prog_14_method_43_code
def yX12_thereBy : MethodName := ⟨RX12, "thereBy", "(II)I"⟩
abbrev cX12_runsOver : ByteArray := prog_14_method_44_code
def yX12_runsOver : MethodName := ⟨RX12, "runsOver", "(I)I"⟩
abbrev cX12_works0 : ByteArray := prog_14_method_45_code
def yX12_works0 : MethodName := ⟨RX12, "works0", "()V"⟩
abbrev cX12_late : ByteArray := prog_14_method_46_code
def yX12_late : MethodName := ⟨RX12, "late", "(I)I"⟩
abbrev cX12_lost : ByteArray := prog_14_method_47_code
def yX12_lost : MethodName := ⟨RX12, "lost", "()I"⟩
abbrev cX12_lates : ByteArray := prog_14_method_48_code
def yX12_lates : MethodName := ⟨RX12, "lates", "()I"⟩
abbrev cX12_lateness : ByteArray := prog_14_method_49_code
def yX12_lateness : MethodName := ⟨RX12, "lateness", "(I)I"⟩
abbrev cX12_count : ByteArray := prog_14_method_50_code
def yX12_count : MethodName := ⟨RX12, "count", "(I)I"⟩
abbrev cX12_isLesson : ByteArray := prog_14_method_51_code
def yX12_isLesson : MethodName := ⟨RX12, "isLesson", "(I)Z"⟩
abbrev cX12_isWhat : ByteArray := prog_14_method_52_code
def yX12_isWhat : MethodName := ⟨RX12, "isWhat", "(II)Z"⟩
abbrev cX12_waitsSet : ByteArray := prog_14_method_53_code
def yX12_waitsSet : MethodName := ⟨RX12, "waitsSet", "(I)I"⟩
abbrev cX12_lesson : ByteArray := prog_14_method_54_code
def yX12_lesson : MethodName := ⟨RX12, "lesson", "(II)I"⟩
abbrev cX12_day : ByteArray := prog_14_method_55_code
def yX12_day : MethodName := ⟨RX12, "day", "(II)I"⟩
abbrev cX12_chain : ByteArray := prog_14_method_56_code
def yX12_chain : MethodName := ⟨RX12, "chain", "(II)I"⟩
abbrev cX12_keeps : ByteArray := prog_14_method_57_code
def yX12_keeps : MethodName := ⟨RX12, "keeps", "(II)V"⟩
abbrev cX12_refuses : ByteArray := prog_14_method_58_code
def yX12_refuses : MethodName := ⟨RX12, "refuses", "(I)I"⟩
abbrev cX12_become : ByteArray := prog_14_method_59_code
def yX12_become : MethodName := ⟨RX12, "become", "(III)I"⟩
abbrev cX12_obey : ByteArray := prog_14_method_60_code
def yX12_obey : MethodName := ⟨RX12, "obey", "(I)Z"⟩
abbrev cX12_undo : ByteArray := prog_14_method_61_code
def yX12_undo : MethodName := ⟨RX12, "undo", "()I"⟩
abbrev cX12_moreBy : ByteArray := prog_14_method_62_code
def yX12_moreBy : MethodName := ⟨RX12, "moreBy", "(II)I"⟩
abbrev cX12_later : ByteArray := prog_14_method_63_code
def yX12_later : MethodName := ⟨RX12, "later", "()I"⟩
abbrev cX12_far : ByteArray := prog_14_method_64_code
def yX12_far : MethodName := ⟨RX12, "far", "(III)I"⟩
abbrev cX12_reaches : ByteArray := prog_14_method_65_code
def yX12_reaches : MethodName := ⟨RX12, "reaches", "(II)I"⟩
abbrev cX12_slack : ByteArray := prog_14_method_66_code
def yX12_slack : MethodName := ⟨RX12, "slack", "(I)I"⟩
abbrev cX12_bits : ByteArray := prog_14_method_67_code
def yX12_bits : MethodName := ⟨RX12, "bits", "(I)I"⟩
abbrev cX12_gaps : ByteArray := prog_14_method_68_code
def yX12_gaps : MethodName := ⟨RX12, "gaps", "(III)I"⟩
abbrev cX12_gap : ByteArray := prog_14_method_69_code
def yX12_gap : MethodName := ⟨RX12, "gap", "(I)I"⟩
abbrev cX12_asks : ByteArray := prog_14_method_70_code
def yX12_asks : MethodName := ⟨RX12, "asks", "()V"⟩
abbrev cX12_tens : ByteArray := prog_14_method_71_code
def yX12_tens : MethodName := ⟨RX12, "tens", "()J"⟩
abbrev cX12_weighs : ByteArray := prog_14_method_72_code
def yX12_weighs : MethodName := ⟨RX12, "weighs", "(II)J"⟩
abbrev cX12_portion : ByteArray := prog_14_method_73_code
def yX12_portion : MethodName := ⟨RX12, "portion", "(JJI)J"⟩
abbrev cX12_chance : ByteArray := prog_14_method_74_code
def yX12_chance : MethodName := ⟨RX12, "chance", "(III)J"⟩
abbrev cX12_mean : ByteArray := prog_14_method_75_code
def yX12_mean : MethodName := ⟨RX12, "mean", "(II)J"⟩
abbrev cX12_swaps : ByteArray := prog_14_method_76_code
def yX12_swaps : MethodName := ⟨RX12, "swaps", "(II)V"⟩
abbrev cX12_swap : ByteArray := prog_14_method_77_code
def yX12_swap : MethodName := ⟨RX12, "swap", "(I)I"⟩
abbrev cX12_bestOf : ByteArray := prog_14_method_78_code
def yX12_bestOf : MethodName := ⟨RX12, "bestOf", "(III)I"⟩
abbrev cX12_room : ByteArray := prog_14_method_79_code
def yX12_room : MethodName := ⟨RX12, "room", "(II)I"⟩
abbrev cX12_limit : ByteArray := prog_14_method_80_code
def yX12_limit : MethodName := ⟨RX12, "limit", "(II)I"⟩
abbrev cX12_last : ByteArray := prog_14_method_81_code
def yX12_last : MethodName := ⟨RX12, "last", "()I"⟩
abbrev cX12_lostBy : ByteArray := prog_14_method_82_code
def yX12_lostBy : MethodName := ⟨RX12, "lostBy", "(I)I"⟩
abbrev cX12_compare : ByteArray := prog_14_method_83_code
def yX12_compare : MethodName := ⟨RX12, "compare", "(I)I"⟩
abbrev cX12_best : ByteArray := prog_14_method_84_code
def yX12_best : MethodName := ⟨RX12, "best", "()I"⟩
abbrev cX12_bell : ByteArray := prog_14_method_85_code
def yX12_bell : MethodName := ⟨RX12, "bell", "(I)I"⟩
abbrev cX12_harm : ByteArray := prog_14_method_86_code
def yX12_harm : MethodName := ⟨RX12, "harm", "(II)I"⟩
abbrev cX12_pair : ByteArray := prog_14_method_87_code
def yX12_pair : MethodName := ⟨RX12, "pair", "(I)I"⟩
abbrev cX12_pause : ByteArray := prog_14_method_88_code
def yX12_pause : MethodName := ⟨RX12, "pause", "(II)I"⟩
abbrev cX12_shift : ByteArray := prog_14_method_89_code
def yX12_shift : MethodName := ⟨RX12, "shift", "(II)I"⟩
abbrev cX12_see : ByteArray := prog_14_method_90_code
def yX12_see : MethodName := ⟨RX12, "see", "(II)I"⟩
abbrev cX12_forget : ByteArray := prog_14_method_91_code
def yX12_forget : MethodName := ⟨RX12, "forget", "()V"⟩
abbrev cX12_isSeen : ByteArray := prog_14_method_92_code
def yX12_isSeen : MethodName := ⟨RX12, "isSeen", "()Z"⟩
abbrev cX12_fits : ByteArray := prog_14_method_93_code
def yX12_fits : MethodName := ⟨RX12, "fits", "(I)I"⟩
abbrev cX12_ways : ByteArray := prog_14_method_94_code
def yX12_ways : MethodName := ⟨RX12, "ways", "()V"⟩
abbrev cX12_streams : ByteArray := prog_14_method_95_code
def yX12_streams : MethodName := ⟨RX12, "streams", "()I"⟩
abbrev cX12_onStair : ByteArray := prog_14_method_96_code
def yX12_onStair : MethodName := ⟨RX12, "onStair", "(I)I"⟩
abbrev cX12_on : ByteArray := prog_14_method_97_code
def yX12_on : MethodName := ⟨RX12, "on", "(II)I"⟩
abbrev cX12_busiest : ByteArray := prog_14_method_98_code
def yX12_busiest : MethodName := ⟨RX12, "busiest", "(I)I"⟩
abbrev cX12_clash : ByteArray := prog_14_method_99_code
def yX12_clash : MethodName := ⟨RX12, "clash", "(I)I"⟩
abbrev cX12_idle : ByteArray := prog_14_method_100_code
def yX12_idle : MethodName := ⟨RX12, "idle", "()I"⟩
abbrev cX12_draw : ByteArray := prog_14_method_101_code
def yX12_draw : MethodName := ⟨RX12, "draw", "(I)I"⟩
abbrev cX12_term : ByteArray := prog_14_method_102_code
def yX12_term : MethodName := ⟨RX12, "term", "(IIII)I"⟩
abbrev cX12_image : ByteArray := prog_14_method_103_code
def yX12_image : MethodName := ⟨RX12, "image", "()V"⟩
abbrev cX12_restore : ByteArray := prog_14_method_104_code
def yX12_restore : MethodName := ⟨RX12, "restore", "()Z"⟩
def RJx145de : String := "java/io/Serializable"
def TJx145de : u_T := fun k => match k with
  | _ => ("", "", "", false)
def tyJx145de : Nat → FieldType := fun k => match k with
  | _ => .int
abbrev wsJx145de0 : List Cond := u_ws RJx145de TJx145de 0
theorem nmJx145de : ∀ a, a < 0 → ∀ b, b < 0 → a ≠ b → (TJx145de a).2.1 ≠ (TJx145de b).2.1 := by decide +kernel
theorem tyJx145de_ok : ∀ k, k < 0 → parseFieldDescriptor (TJx145de k).2.2.1 = some (tyJx145de k) := by decide +kernel
def RJx9f9b0 : String := "java/lang/CharSequence"
def TJx9f9b0 : u_T := fun k => match k with
  | _ => ("", "", "", false)
def tyJx9f9b0 : Nat → FieldType := fun k => match k with
  | _ => .int
abbrev wsJx9f9b00 : List Cond := u_ws RJx9f9b0 TJx9f9b0 0
theorem nmJx9f9b0 : ∀ a, a < 0 → ∀ b, b < 0 → a ≠ b → (TJx9f9b0 a).2.1 ≠ (TJx9f9b0 b).2.1 := by decide +kernel
theorem tyJx9f9b0_ok : ∀ k, k < 0 → parseFieldDescriptor (TJx9f9b0 k).2.2.1 = some (tyJx9f9b0 k) := by decide +kernel
def RJxb160c : String := "java/lang/Comparable"
def TJxb160c : u_T := fun k => match k with
  | _ => ("", "", "", false)
def tyJxb160c : Nat → FieldType := fun k => match k with
  | _ => .int
abbrev wsJxb160c0 : List Cond := u_ws RJxb160c TJxb160c 0
theorem nmJxb160c : ∀ a, a < 0 → ∀ b, b < 0 → a ≠ b → (TJxb160c a).2.1 ≠ (TJxb160c b).2.1 := by decide +kernel
theorem tyJxb160c_ok : ∀ k, k < 0 → parseFieldDescriptor (TJxb160c k).2.2.1 = some (tyJxb160c k) := by decide +kernel
def RJ6 : String := "java/lang/Integer"
def TJ6 : u_T := fun k => match k with
  | _ => ("", "", "", false)
def tyJ6 : Nat → FieldType := fun k => match k with
  | _ => .int
abbrev wsJ60 : List Cond := u_ws RJ6 TJ6 0
theorem nmJ6 : ∀ a, a < 0 → ∀ b, b < 0 → a ≠ b → (TJ6 a).2.1 ≠ (TJ6 b).2.1 := by decide +kernel
theorem tyJ6_ok : ∀ k, k < 0 → parseFieldDescriptor (TJ6 k).2.2.1 = some (tyJ6 k) := by decide +kernel
abbrev cJ6_bitCount_0f7a4 : ByteArray := prog_20_method_49_code
def yJ6_bitCount_0f7a4 : MethodName := ⟨RJ6, "bitCount", "(I)I"⟩
def RJ9 : String := "java/lang/Math"
def TJ9 : u_T := fun k => match k with
  | _ => ("", "", "", false)
def tyJ9 : Nat → FieldType := fun k => match k with
  | _ => .int
abbrev wsJ90 : List Cond := u_ws RJ9 TJ9 0
theorem nmJ9 : ∀ a, a < 0 → ∀ b, b < 0 → a ≠ b → (TJ9 a).2.1 ≠ (TJ9 b).2.1 := by decide +kernel
theorem tyJ9_ok : ∀ k, k < 0 → parseFieldDescriptor (TJ9 k).2.2.1 = some (tyJ9 k) := by decide +kernel
abbrev cJ9_abs_0f7a4 : ByteArray := prog_21_method_59_code
def yJ9_abs_0f7a4 : MethodName := ⟨RJ9, "abs", "(I)I"⟩
abbrev cJ9_max_7cf53 : ByteArray := prog_21_method_65_code
def yJ9_max_7cf53 : MethodName := ⟨RJ9, "max", "(II)I"⟩
abbrev cJ9_min_7cf53 : ByteArray := prog_21_method_69_code
def yJ9_min_7cf53 : MethodName := ⟨RJ9, "min", "(II)I"⟩
def RJ0 : String := "java/lang/String"
def TJ0 : u_T := fun k => match k with
  | _ => ("", "", "", false)
def tyJ0 : Nat → FieldType := fun k => match k with
  | _ => .int
abbrev wsJ00 : List Cond := u_ws RJ0 TJ0 0
theorem nmJ0 : ∀ a, a < 0 → ∀ b, b < 0 → a ≠ b → (TJ0 a).2.1 ≠ (TJ0 b).2.1 := by decide +kernel
theorem tyJ0_ok : ∀ k, k < 0 → parseFieldDescriptor (TJ0 k).2.2.1 = some (tyJ0 k) := by decide +kernel
abbrev cJ0_length_8abf5 : ByteArray := prog_23_method_54_code
def yJ0_length_8abf5 : MethodName := ⟨RJ0, "length", "()I"⟩
abbrev cJ0_charAt_5068e : ByteArray := prog_23_method_56_code
def yJ0_charAt_5068e : MethodName := ⟨RJ0, "charAt", "(I)C"⟩
abbrev cJ0_coder_7d493 : ByteArray := prog_23_method_152_code
def yJ0_coder_7d493 : MethodName := ⟨RJ0, "coder", "()B"⟩
abbrev cJ0_isLatin1_aae02 : ByteArray := prog_23_method_154_code
def yJ0_isLatin1_aae02 : MethodName := ⟨RJ0, "isLatin1", "()Z"⟩
abbrev cJ0_checkIndex_df160 : ByteArray := prog_23_method_155_code
def yJ0_checkIndex_df160 : MethodName := ⟨RJ0, "checkIndex", "(II)V"⟩
def RJ1 : String := "java/lang/StringLatin1"
def TJ1 : u_T := fun k => match k with
  | _ => ("", "", "", false)
def tyJ1 : Nat → FieldType := fun k => match k with
  | _ => .int
abbrev wsJ10 : List Cond := u_ws RJ1 TJ1 0
theorem nmJ1 : ∀ a, a < 0 → ∀ b, b < 0 → a ≠ b → (TJ1 a).2.1 ≠ (TJ1 b).2.1 := by decide +kernel
theorem tyJ1_ok : ∀ k, k < 0 → parseFieldDescriptor (TJ1 k).2.2.1 = some (tyJ1 k) := by decide +kernel
abbrev cJ1_charAt_3b067 : ByteArray := prog_24_method_2_code
def yJ1_charAt_3b067 : MethodName := ⟨RJ1, "charAt", "([BI)C"⟩
def RJ2 : String := "java/lang/StringUTF16"
def TJ2 : u_T := fun k => match k with
  | _ => ("", "", "", false)
def tyJ2 : Nat → FieldType := fun k => match k with
  | _ => .int
abbrev wsJ20 : List Cond := u_ws RJ2 TJ2 0
theorem nmJ2 : ∀ a, a < 0 → ∀ b, b < 0 → a ≠ b → (TJ2 a).2.1 ≠ (TJ2 b).2.1 := by decide +kernel
theorem tyJ2_ok : ∀ k, k < 0 → parseFieldDescriptor (TJ2 k).2.2.1 = some (tyJ2 k) := by decide +kernel
abbrev cJ2_getChar_3b067 : ByteArray := prog_25_method_5_code
def yJ2_getChar_3b067 : MethodName := ⟨RJ2, "getChar", "([BI)C"⟩
abbrev cJ2_length_9d52b : ByteArray := prog_25_method_6_code
def yJ2_length_9d52b : MethodName := ⟨RJ2, "length", "([B)I"⟩
abbrev cJ2_charAt_3b067 : ByteArray := prog_25_method_83_code
def yJ2_charAt_3b067 : MethodName := ⟨RJ2, "charAt", "([BI)C"⟩
abbrev cJ2_checkIndex_2214a : ByteArray := prog_25_method_91_code
def yJ2_checkIndex_2214a : MethodName := ⟨RJ2, "checkIndex", "(I[B)V"⟩
def RJ10 : String := "java/lang/System"
def TJ10 : u_T := fun k => match k with
  | _ => ("", "", "", false)
def tyJ10 : Nat → FieldType := fun k => match k with
  | _ => .int
abbrev wsJ100 : List Cond := u_ws RJ10 TJ10 0
theorem nmJ10 : ∀ a, a < 0 → ∀ b, b < 0 → a ≠ b → (TJ10 a).2.1 ≠ (TJ10 b).2.1 := by decide +kernel
theorem tyJ10_ok : ∀ k, k < 0 → parseFieldDescriptor (TJ10 k).2.2.1 = some (tyJ10 k) := by decide +kernel
def RJxfd54e : String := "java/lang/constant/Constable"
def TJxfd54e : u_T := fun k => match k with
  | _ => ("", "", "", false)
def tyJxfd54e : Nat → FieldType := fun k => match k with
  | _ => .int
abbrev wsJxfd54e0 : List Cond := u_ws RJxfd54e TJxfd54e 0
theorem nmJxfd54e : ∀ a, a < 0 → ∀ b, b < 0 → a ≠ b → (TJxfd54e a).2.1 ≠ (TJxfd54e b).2.1 := by decide +kernel
theorem tyJxfd54e_ok : ∀ k, k < 0 → parseFieldDescriptor (TJxfd54e k).2.2.1 = some (tyJxfd54e k) := by decide +kernel
def RJx3cf43 : String := "java/lang/constant/ConstantDesc"
def TJx3cf43 : u_T := fun k => match k with
  | _ => ("", "", "", false)
def tyJx3cf43 : Nat → FieldType := fun k => match k with
  | _ => .int
abbrev wsJx3cf430 : List Cond := u_ws RJx3cf43 TJx3cf43 0
theorem nmJx3cf43 : ∀ a, a < 0 → ∀ b, b < 0 → a ≠ b → (TJx3cf43 a).2.1 ≠ (TJx3cf43 b).2.1 := by decide +kernel
theorem tyJx3cf43_ok : ∀ k, k < 0 → parseFieldDescriptor (TJx3cf43 k).2.2.1 = some (tyJx3cf43 k) := by decide +kernel
def RJ3 : String := "jdk/internal/util/Preconditions"
def TJ3 : u_T := fun k => match k with
  | _ => ("", "", "", false)
def tyJ3 : Nat → FieldType := fun k => match k with
  | _ => .int
abbrev wsJ30 : List Cond := u_ws RJ3 TJ3 0
theorem nmJ3 : ∀ a, a < 0 → ∀ b, b < 0 → a ≠ b → (TJ3 a).2.1 ≠ (TJ3 b).2.1 := by decide +kernel
theorem tyJ3_ok : ∀ k, k < 0 → parseFieldDescriptor (TJ3 k).2.2.1 = some (tyJ3 k) := by decide +kernel
abbrev cJ3_checkIndex_8e157 : ByteArray := prog_31_method_11_code
def yJ3_checkIndex_8e157 : MethodName := ⟨RJ3, "checkIndex", "(IILjava/util/function/BiFunction;)I"⟩
def RL : String := "MarshBellsLaw"
abbrev cL_house : ByteArray := method_3_code
def yL_house : MethodName := ⟨RL, "house", "(LMarshBells;I[J)I"⟩
abbrev cL_count : ByteArray := method_4_code
def yL_count : MethodName := ⟨RL, "count", "(LMarshBells;I[J)I"⟩
abbrev cL_lesson : ByteArray := method_5_code
def yL_lesson : MethodName := ⟨RL, "lesson", "(LMarshBells;II[J)I"⟩
abbrev cL_day : ByteArray := method_6_code
def yL_day : MethodName := ⟨RL, "day", "(LMarshBells;II[J)I"⟩
abbrev cL_chain : ByteArray := method_7_code
def yL_chain : MethodName := ⟨RL, "chain", "(LMarshBells;II[J)I"⟩
abbrev cL_become : ByteArray := method_8_code
def yL_become : MethodName := ⟨RL, "become", "(LMarshBells;III[J)I"⟩
abbrev cL_far : ByteArray := method_9_code
def yL_far : MethodName := ⟨RL, "far", "(LMarshBells;III[J)I"⟩
abbrev cL_reaches : ByteArray := method_10_code
def yL_reaches : MethodName := ⟨RL, "reaches", "(LMarshBells;II[J)I"⟩
abbrev cL_slack : ByteArray := method_11_code
def yL_slack : MethodName := ⟨RL, "slack", "(LMarshBells;I[J)I"⟩
abbrev cL_gaps : ByteArray := method_12_code
def yL_gaps : MethodName := ⟨RL, "gaps", "(LMarshBells;III[J)I"⟩
abbrev cL_gap : ByteArray := method_13_code
def yL_gap : MethodName := ⟨RL, "gap", "(LMarshBells;I[J)I"⟩
abbrev cL_chance : ByteArray := method_14_code
def yL_chance : MethodName := ⟨RL, "chance", "(LMarshBells;III[J)I"⟩
abbrev cL_mean : ByteArray := method_15_code
def yL_mean : MethodName := ⟨RL, "mean", "(LMarshBells;II[J)I"⟩
abbrev cL_swap : ByteArray := method_16_code
def yL_swap : MethodName := ⟨RL, "swap", "(LMarshBells;I[J)I"⟩
abbrev cL_room : ByteArray := method_17_code
def yL_room : MethodName := ⟨RL, "room", "(LMarshBells;II[J)I"⟩
abbrev cL_limit : ByteArray := method_18_code
def yL_limit : MethodName := ⟨RL, "limit", "(LMarshBells;II[J)I"⟩
abbrev cL_compare : ByteArray := method_19_code
def yL_compare : MethodName := ⟨RL, "compare", "(LMarshBells;I[J)I"⟩
abbrev cL_bell : ByteArray := method_20_code
def yL_bell : MethodName := ⟨RL, "bell", "(LMarshBells;I[J)I"⟩
abbrev cL_see : ByteArray := method_21_code
def yL_see : MethodName := ⟨RL, "see", "(LMarshBells;II[J)I"⟩
abbrev cL_fits : ByteArray := method_22_code
def yL_fits : MethodName := ⟨RL, "fits", "(LMarshBells;I[J)I"⟩
abbrev cL_term : ByteArray := method_23_code
def yL_term : MethodName := ⟨RL, "term", "(LMarshBells;IIII[J)I"⟩
abbrev cL_on : ByteArray := method_24_code
def yL_on : MethodName := ⟨RL, "on", "(LMarshBells;II[J)I"⟩
abbrev cL_clash : ByteArray := method_25_code
def yL_clash : MethodName := ⟨RL, "clash", "(LMarshBells;I[J)I"⟩
abbrev cL_busiest : ByteArray := method_26_code
def yL_busiest : MethodName := ⟨RL, "busiest", "(LMarshBells;I[J)I"⟩
abbrev cL_shift : ByteArray := method_27_code
def yL_shift : MethodName := ⟨RL, "shift", "(LMarshBells;II[J)I"⟩
abbrev cL_harm : ByteArray := method_28_code
def yL_harm : MethodName := ⟨RL, "harm", "(LMarshBells;II[J)I"⟩
abbrev cL_pair : ByteArray := method_29_code
def yL_pair : MethodName := ⟨RL, "pair", "(LMarshBells;I[J)I"⟩
abbrev cL_pause : ByteArray := method_30_code
def yL_pause : MethodName := ⟨RL, "pause", "(LMarshBells;II[J)I"⟩
abbrev cL_law : ByteArray := code
def yL_law : MethodName := ⟨RL, "law", "([I)Z"⟩
abbrev vwCl : List vw_C := [(RX0, TX0, 7), (RX1, TX1, 10), (RX2, TX2, 9), (RX3, TX3, 12), (RX4, TX4, 3), (RX5, TX5, 14), (RX6, TX6, 11), (RX7, TX7, 5), (RX8, TX8, 5), (RX9, TX9, 6), (RX10, TX10, 7), (RX11, TX11, 17), (RX12, TX12, 88)]
end
section
/-! ===== my own layer: one predicate for all table words, one list of array classes, contracts over cells ===== -/
def kOk (w : Cond) : Bool := match w with
  | .fieldLinkNest .. => true
  | .methodLinkNest .. => true
  | .castable .. => true
  | .declares .. => true
  | w => goodWord w
def kW (U : State) : Prop := ∀ w ∈ lw_tbl, kOk w = true → ∀ a : Array Value, w.before a U = true
theorem kW.warm {s U : State} (hW : s.WarmedH U.vm) (h : kW s) : kW U := by
  intro w hm hk a
  have h1 := h w hm hk #[]
  unfold kOk at hk
  split at hk
  · exact va_Nw.use rfl (va_Nw.warmF hW h1)
  · exact va_Nw.use rfl (va_Nw.warmM hW h1)
  · exact va_Nw.use rfl (va_Nw.warmC hW h1)
  · exact va_Nw.use rfl (va_Nw.warmD hW h1)
  · exact word_at hW (good_of_word hk) h1
abbrev kG : Type := va_G × ClassId × ClassId × ClassId × ClassId
abbrev kT (G : kG) : List (ClassId × FieldType) := [(G.2.1, .int), (G.2.2.1, .boolean), (G.2.2.2.1, .object "MarshBells$Lesson"), (G.2.2.2.2, .long)]
def kE (G : kG) (U : State) : Prop := kW U ∧ va_K G.1 vwCl (kT G) U ∧ va_AO "MarshBells$Lesson" U ∧ va_Nc "java/lang/IllegalArgumentException" "java/util/NoSuchElementException" U
theorem kE.warm {G : kG} {s U : State} (hW : s.WarmedH U.vm) (h : kE G s) : kE G U := ⟨h.1.warm hW, va_K.moved hW.alike h.2.1, va_AO.moved hW.alike h.2.2.1, h.2.2.2.moved hW.alike⟩
theorem kE.w {G : kG} {s : State} (h : kE G s) {w : Cond} {args : Array Value} (hm : w ∈ lw_tbl) (hk : kOk w = true) : w.before args s = true := h.1 w hm hk args
def kX (A : Nat → Prop) (U : State) (H : Heap) : Prop := vx_Zq Bundle.tN "UNASSIGNED_STACK" Bundle.steD A U H ∧ vx_Zq Bundle.tN "SUPPRESSED_SENTINEL" Bundle.listD A U H
theorem kX.moved {A : Nat → Prop} {u U : State} {H : Heap} (hvm : u.vm.Alike U.vm) (h : kX A u H) : kX A U H := ⟨vx_Zq.moved hvm h.1, vx_Zq.moved hvm h.2⟩
theorem kX.kept {A : Nat → Prop} {U : State} {H H1 : Heap} (h : kX A U H) (hq : ∀ a : Nat, a < H.size → ¬ A a → H1[a]? = H[a]?) : kX A U H1 := ⟨h.1.kept hq, h.2.kept hq⟩
theorem kX.narrow {A B : Nat → Prop} {U : State} {H : Heap} (h : kX A U H) (hAB : ∀ q, B q → A q) : kX B U H := ⟨h.1.narrow hAB, h.2.narrow hAB⟩
/-- a method's start -/
def kP (G : kG) (av : List Value) (ws : va_W) (sz : Nat) : Array Value → State → Prop := va_Pc av (fun U => U.heap.size = sz ∧ va_P G.1 vwCl ws U.heap ∧ va_D (fun _ => True) ws ∧ kE G U ∧ kX (va_A ws sz) U U.heap)
def kB (G : kG) (A : Nat → Prop) (ws : va_W) (t : State) : Prop := va_P G.1 vwCl ws t.heap ∧ va_D A ws
def kQi (G : kG) {S : Type} (post : Int32 → S → Prop) (w : S → va_W) (A : Nat → Prop) : Array Value → State → Outcome → State → Prop := va_Qi post (fun u t => kB G A (w u) t) A
def kQl (G : kG) {S : Type} (post : Int64 → S → Prop) (w : S → va_W) (A : Nat → Prop) : Array Value → State → Outcome → State → Prop := va_Ql post (fun u t => kB G A (w u) t) A
def kQv (G : kG) {S : Type} (post : S → Prop) (w : S → va_W) (A : Nat → Prop) : Array Value → State → Outcome → State → Prop := va_Qv post (fun u t => kB G A (w u) t) A
def kXC (G : kG) {S : Type} (px : String → S → Prop) (w : S → va_W) (A : Nat → Prop) : String → State → State → Prop := vx_X (fun _ : S => True) (fun E u t => px E u ∧ kB G A (w u) t) A
/-- a method that returns; one that returns or throws -/
def kM (l : Launch) (y : MethodName) (cc : ByteArray) (nL : Nat) (ret : Option FieldType) (rm : Room) (G : kG) (av : List Value) (ws : va_W) (sz : Nat) (Q : (Nat → Prop) → Array Value → State → Outcome → State → Prop) : Prop :=
  Met l y [.code y cc nL ret] rm (kP G av ws sz) (Q (va_A ws sz)) rm.cells rm.slots (va_A ws sz)
def kMX (l : Launch) (y : MethodName) (cc : ByteArray) (nL : Nat) (ret : Option FieldType) (rm : Room) (G : kG) (av : List Value) (ws : va_W) (sz : Nat) (Q : (Nat → Prop) → Array Value → State → Outcome → State → Prop) (X : (Nat → Prop) → String → State → State → Prop) : Prop :=
  vx_Met l y [.code y cc nL ret] rm (kP G av ws sz) (Q (va_A ws sz)) (X (va_A ws sz)) rm.cells rm.slots (va_A ws sz)
/-- what a method's body knows throughout -/
def kC (G : kG) (p : Program) (s : State) (m : MethodId) (c : Code) (cc : ByteArray) (nL : Nat) (own : String) (A : Nat → Prop) : Prop :=
  p.tables.exec = Jvm.exec ∧ c.code = cc ∧ c.maxLocals = nL ∧ s.vm.findClass own = some m.cls ∧ kE G s ∧ kX A s s.heap ∧ ∀ q, s.heap.size ≤ q → A q
theorem kP.blind {G : kG} {av : List Value} {ws : va_W} {sz : Nat} : FrameBlind (kP G av ws sz) := by
  intro a U g mk h
  obtain ⟨h1, h2, h3, h4, h5, h6⟩ := h
  have hvm : (U.calling g mk a).vm = U.vm := rfl
  have hW : U.WarmedH (U.calling g mk a).vm := by rw [hvm]; exact State.WarmedH.refl U
  exact ⟨h1, h2, h3, h4, h5.warm hW, h6.moved (Vm.Alike.refl U.vm)⟩
theorem kM.of {l : Launch} {y : MethodName} {cc : ByteArray} {nL : Nat} {ret : Option FieldType} {rm : Room} {G : kG} {av : List Value} {ws : va_W} {sz : Nat} {Q : (Nat → Prop) → Array Value → State → Outcome → State → Prop} (hy : plainName y.cls = true) (hn : (lg_sl av).length ≤ nL)
    (body : ∀ (p : Program) (e : Env) (s : State) (m : MethodId) (below : List Frame) (meth : Method) (c : Code) (A : Nat → Prop) (ls : Array Slot), kC G p s m c cc nL y.cls A → meth.sig.returnType = ret → meth.locks = false → meth.name = y.name → va_P G.1 vwCl ws s.heap → va_D A ws → va_S A s.heap s.heap [] → lv_has ls nL (lv_args 0 av) →
      W p l e rm s m av.toArray below meth c s.heap [] 0 0 (MQ below (Q A) av.toArray s rm.cells rm.slots A) (F0 m 0 ls [])) : kM l y cc nL ret rm G av ws sz Q := by
  refine Met.ofW (cc := cc) (maxL := nL) (ret := ret) hy rfl ?_
  intro p e s m args below meth c s₁ B hml hv
  obtain ⟨rfl, hsz, hP, hD0, hE, hX⟩ := hv
  subst hsz
  have hown : s.vm.findClass y.cls = some m.cls := findClass_of_methodNamed B.named
  rw [lg_entry_eq]
  exact body p e s m below meth c (va_A ws s.heap.size) _ ⟨B.exec, B.bytes, hml, hown, hE, hX, fun q h => Or.inr h⟩ B.returns B.notSynchronized (name_of_methodNamed B.named B.method).1 hP (hD0.self (sz := s.heap.size)) va_S.rf (lv_entry av hn)
theorem kMX.of {l : Launch} {y : MethodName} {cc : ByteArray} {nL : Nat} {ret : Option FieldType} {rm : Room} {G : kG} {av : List Value} {ws : va_W} {sz : Nat} {Q : (Nat → Prop) → Array Value → State → Outcome → State → Prop} {X : (Nat → Prop) → String → State → State → Prop} (hy : plainName y.cls = true) (hn : (lg_sl av).length ≤ nL)
    (body : ∀ (p : Program) (e : Env) (s : State) (m : MethodId) (below : List Frame) (meth : Method) (c : Code) (A : Nat → Prop) (ls : Array Slot), kC G p s m c cc nL y.cls A → meth.sig.returnType = ret → meth.locks = false → (∀ x ∈ c.exceptionTable.toList, False) → va_P G.1 vwCl ws s.heap → va_D A ws → va_S A s.heap s.heap [] → lv_has ls nL (lv_args 0 av) →
      W p l e rm s m av.toArray below meth c s.heap [] 0 0 (vx_MQ below (Q A) (X A) av.toArray s rm.cells rm.slots A) (F0 m 0 ls [])) : kMX l y cc nL ret rm G av ws sz Q X := by
  refine vx_ofW (cc := cc) (maxL := nL) (ret := ret) hy rfl ?_
  intro p e s m args below meth c s₁ B hml ht hv
  obtain ⟨rfl, hsz, hP, hD0, hE, hX⟩ := hv
  subst hsz
  have hown : s.vm.findClass y.cls = some m.cls := findClass_of_methodNamed B.named
  rw [lg_entry_eq]
  exact body p e s m below meth c (va_A ws s.heap.size) _ ⟨B.exec, B.bytes, hml, hown, hE, hX, fun q h => Or.inr h⟩ B.returns B.notSynchronized ht hP (hD0.self (sz := s.heap.size)) va_S.rf (lv_entry av hn)
/-- links: a call's words -/
def kLV (own : String) (index : Nat) (C : String) (y : MethodName) (bytes : ByteArray) (maxL : Nat) (ret : Option FieldType) (n : Nat) : Prop :=
  Cond.methodLink own index y ∈ lw_tbl ∧ Cond.instanceMethod y ∈ lw_tbl ∧ Cond.selects C y y ∈ lw_tbl ∧ Cond.code y bytes maxL ret ∈ lw_tbl ∧ Cond.initialized y.cls ∈ lw_tbl ∧ (y.cls = C ∧ y.cls ≠ "java/lang/invoke/MethodHandle" ∧ y.cls ≠ "java/lang/invoke/VarHandle" ∧ (parseMethodDescriptor y.desc).map (fun d => d.parameters.length) = some n)
def kLN (own : String) (index : Nat) (C : String) (y : MethodName) (host : String) (bytes : ByteArray) (maxL : Nat) (ret : Option FieldType) (n : Nat) : Prop :=
  Cond.methodLinkNest own index y host ∈ lw_tbl ∧ Cond.instanceMethod y ∈ lw_tbl ∧ Cond.selects C y y ∈ lw_tbl ∧ Cond.code y bytes maxL ret ∈ lw_tbl ∧ Cond.initialized y.cls ∈ lw_tbl ∧ (y.cls = C ∧ y.cls ≠ "java/lang/invoke/MethodHandle" ∧ y.cls ≠ "java/lang/invoke/VarHandle" ∧ (parseMethodDescriptor y.desc).map (fun d => d.parameters.length) = some n)
def kLI (own : String) (index : Nat) (y : MethodName) (bytes : ByteArray) (maxL n : Nat) : Prop :=
  Cond.methodLink own index y ∈ lw_tbl ∧ Cond.instanceMethod y ∈ lw_tbl ∧ Cond.code y bytes maxL none ∈ lw_tbl ∧ Cond.initialized y.cls ∈ lw_tbl ∧ y.name = "<init>" ∧ (y.cls ≠ "java/lang/invoke/MethodHandle" ∧ y.cls ≠ "java/lang/invoke/VarHandle" ∧ (parseMethodDescriptor y.desc).map (fun d => d.parameters.length) = some n)
def kLJ (own : String) (index : Nat) (y : MethodName) (host : String) (bytes : ByteArray) (maxL n : Nat) : Prop :=
  Cond.methodLinkNest own index y host ∈ lw_tbl ∧ Cond.instanceMethod y ∈ lw_tbl ∧ Cond.code y bytes maxL none ∈ lw_tbl ∧ Cond.initialized y.cls ∈ lw_tbl ∧ y.name = "<init>" ∧ (y.cls ≠ "java/lang/invoke/MethodHandle" ∧ y.cls ≠ "java/lang/invoke/VarHandle" ∧ (parseMethodDescriptor y.desc).map (fun d => d.parameters.length) = some n)
def kLS (own : String) (index : Nat) (y : MethodName) (bytes : ByteArray) (maxL : Nat) (ret : Option FieldType) (n : Nat) : Prop :=
  Cond.methodLink own index y ∈ lw_tbl ∧ Cond.static y ∈ lw_tbl ∧ Cond.code y bytes maxL ret ∈ lw_tbl ∧ Cond.initialized y.cls ∈ lw_tbl ∧ (y.cls ≠ "java/lang/invoke/MethodHandle" ∧ y.cls ≠ "java/lang/invoke/VarHandle" ∧ (parseMethodDescriptor y.desc).map (fun d => d.parameters.length) = some n)
def kLR (rm R : Room) (maxL cells slots : Nat) : Prop := rm.frames + 1 ≤ R.frames ∧ 8 + (maxL + 11) + rm.locals ≤ R.locals ∧ cells + rm.cells ≤ R.cells ∧ slots + rm.slots ≤ R.slots
/-- a static method with a table of its own -/
def kMH (l : Launch) (y : MethodName) (cc : ByteArray) (nL : Nat) (ret : Option FieldType) (hh : List (Nat × Nat × Nat × Nat)) (rm : Room) (G : kG) (av : List Value) (ws : va_W) (sz : Nat) (Q : (Nat → Prop) → Array Value → State → Outcome → State → Prop) : Prop :=
  Met l y [.codeWith y cc nL ret hh] rm (kP G av ws sz) (Q (va_A ws sz)) rm.cells rm.slots (va_A ws sz)
theorem kMH.of {l : Launch} {y : MethodName} {cc : ByteArray} {nL : Nat} {ret : Option FieldType} {hh : List (Nat × Nat × Nat × Nat)} {rm : Room} {G : kG} {av : List Value} {ws : va_W} {sz : Nat} {Q : (Nat → Prop) → Array Value → State → Outcome → State → Prop} (hy : plainName y.cls = true) (hn : (lg_sl av).length ≤ nL)
    (body : ∀ (p : Program) (e : Env) (s : State) (m : MethodId) (below : List Frame) (meth : Method) (c : Code) (A : Nat → Prop) (ls : Array Slot), kC G p s m c cc nL y.cls A → meth.sig.returnType = ret → meth.locks = false → c.exceptionTable.toList = tableOf hh → va_P G.1 vwCl ws s.heap → va_D A ws → va_S A s.heap s.heap [] → lv_has ls nL (lv_args 0 av) →
      W p l e rm s m av.toArray below meth c s.heap [] 0 0 (MQ below (Q A) av.toArray s rm.cells rm.slots A) (F0 m 0 ls [])) : kMH l y cc nL ret hh rm G av ws sz Q := by
  refine va_MetW (cc := cc) (maxL := nL) (ret := ret) (hh := hh) hy rfl ?_
  intro p e s m args below meth c s₁ B hml hv
  obtain ⟨rfl, hsz, hP, hD0, hE, hX⟩ := hv
  subst hsz
  have hown : s.vm.findClass y.cls = some m.cls := findClass_of_methodNamed B.named
  have ht := vx_table (x := y) B (atoms_spec (ws := [.codeWith y cc nL ret hh]) B.pre _ List.mem_cons_self)
  rw [lg_entry_eq]
  exact body p e s m below meth c (va_A ws s.heap.size) _ ⟨B.exec, B.bytes, hml, hown, hE, hX, fun q h => Or.inr h⟩ B.returns B.notSynchronized ht hP (hD0.self (sz := s.heap.size)) va_S.rf (lv_entry av hn)
def kLH (own : String) (index : Nat) (y : MethodName) (bytes : ByteArray) (maxL : Nat) (ret : Option FieldType) (hh : List (Nat × Nat × Nat × Nat)) (n : Nat) : Prop :=
  Cond.methodLink own index y ∈ lw_tbl ∧ Cond.static y ∈ lw_tbl ∧ Cond.codeWith y bytes maxL ret hh ∈ lw_tbl ∧ Cond.initialized y.cls ∈ lw_tbl ∧ (y.cls ≠ "java/lang/invoke/MethodHandle" ∧ y.cls ≠ "java/lang/invoke/VarHandle" ∧ (parseMethodDescriptor y.desc).map (fun d => d.parameters.length) = some n)
end
section
section KR
variable {p : Program} {l : Launch} {e : Env} {R : Room} {s : State} {m : MethodId} {args : Array Value} {below : List Frame} {meth : Method} {c : Code} {H : Heap} {locs : List Loc} {cells slots : Nat} {Q : State → Prop} {cc : ByteArray} {nL pc : Nat} {ls : Array Slot} {rest st0 : List Value} {G : kG} {own : String} {A : Nat → Prop} {ws : va_W}
theorem kOk_lay {C : String} {T : u_T} {N : Nat} {w : Cond} (h : w ∈ u_ws C T N) : kOk w = true := by
  obtain ⟨k, -, rfl⟩ := List.mem_map.mp h
  unfold u_lay
  split <;> rfl
def kFL (own : String) (index ci k : Nat) : Prop := ∃ (C : String) (T : u_T) (N : Nat), vwCl[ci]? = some (C, T, N) ∧ k < N ∧ (∀ w ∈ u_ws C T N, w ∈ lw_tbl) ∧ Cond.fieldLink own index (T k).1 (T k).2.1 (T k).2.2.1 ∈ lw_tbl
def kFN (own : String) (index ci k : Nat) : Prop := ∃ (C : String) (T : u_T) (N : Nat), vwCl[ci]? = some (C, T, N) ∧ k < N ∧ (∀ w ∈ u_ws C T N, w ∈ lw_tbl) ∧ Cond.fieldLinkNest own index (T k).1 (T k).2.1 (T k).2.2.1 "MarshBells" ∈ lw_tbl
/-- a class's fields, for stores -/
def kFT (ci k : Nat) (ty : FieldType) (fin : Bool) (O : String) : Prop := ∃ (C : String) (T : u_T) (N : Nat) (ty0 : Nat → FieldType), vwCl[ci]? = some (C, T, N) ∧ (∀ k, k < N → parseFieldDescriptor (T k).2.2.1 = some (ty0 k)) ∧ (∀ a, a < N → ∀ b, b < N → a ≠ b → (T a).2.1 ≠ (T b).2.1) ∧ (T k).2.2.2 = fin ∧ parseFieldDescriptor (T k).2.2.1 = some ty ∧ (T k).1 = O
theorem k_get {index ci k a : Nat} {fs : List Value} {v : Value} (F : kFL own index ci k) (C : kC G p s m c cc nL own A) (hP : va_P G.1 vwCl ws H) (q0 : Nat) (he : ws[q0]? = some (a, .inr (ci, fs))) (hv : fs[k]? = some v) (hdg : decode cc pc = .ok (.getfield index, 3))
    (kk : W p l e R s m args below meth c H locs cells slots Q (F0 m (pc + 3) ls (v :: rest))) : W p l e R s m args below meth c H locs cells slots Q (F0 m pc ls (.ref a :: rest)) := by
  obtain ⟨Cn, T, N, h1, h2, h3, h4⟩ := F
  obtain ⟨hx, hb, -, hown, hE, -, -⟩ := C
  exact va_get (ci := ci) hx hb (Ts := u_ws Cn T N) (fun w h => hE.w (h3 w h) (kOk_lay h)) (fun _ h => h) hown hE.2.1 hP q0 he h1 k h2 (hE.w h4 rfl) (fun _ h => h) hv hdg kk
theorem k_getN {index ci k a : Nat} {fs : List Value} {v : Value} (F : kFN own index ci k) (C : kC G p s m c cc nL own A) (hP : va_P G.1 vwCl ws H) (q0 : Nat) (he : ws[q0]? = some (a, .inr (ci, fs))) (hv : fs[k]? = some v) (hdg : decode cc pc = .ok (.getfield index, 3))
    (kk : W p l e R s m args below meth c H locs cells slots Q (F0 m (pc + 3) ls (v :: rest))) : W p l e R s m args below meth c H locs cells slots Q (F0 m pc ls (.ref a :: rest)) := by
  obtain ⟨Cn, T, N, h1, h2, h3, h4⟩ := F
  obtain ⟨hx, hb, -, hown, hE, -, -⟩ := C
  exact va_getN (ci := ci) hx hb (Ts := u_ws Cn T N) (fun w h => hE.w (h3 w h) (kOk_lay h)) (fun _ h => h) hown hE.2.1 hP q0 he h1 k h2 (hE.w h4 rfl) (fun _ h => h) hv hdg kk
theorem k_put {index ci k a : Nat} {ty : FieldType} {fs : List Value} {v : Value} {O : String} (F : kFL own index ci k) (FT : kFT ci k ty false O) (C : kC G p s m c cc nL own A) (hP : va_P G.1 vwCl ws H) (hD : va_D A ws) (hS : va_S A s.heap H locs) (q0 : Nat) (he : ws[q0]? = some (a, .inr (ci, fs))) (hl : k < fs.length) (hn : narrow ty v = v) (hfit : fits ty v = true) (hdg : decode cc pc = .ok (.putfield index, 3))
    (kk : ∀ (H1 : Heap) (locs1 : List Loc), va_P G.1 vwCl (ws.set q0 (a, .inr (ci, fs.set k v))) H1 → va_D A (ws.set q0 (a, .inr (ci, fs.set k v))) → va_S A s.heap H1 locs1 → W p l e R s m args below meth c H1 locs1 cells slots Q (F0 m (pc + 3) ls rest)) : W p l e R s m args below meth c H locs cells slots Q (F0 m pc ls (v :: .ref a :: rest)) := by
  obtain ⟨Cn, T, N, h1, h2, h3, h4⟩ := F
  obtain ⟨C2, T2, N2, ty0, f1, f2, f3, f4, f5, f6⟩ := FT
  cases Option.some.inj (h1.symm.trans f1)
  obtain ⟨hx, hb, -, hown, hE, -, -⟩ := C
  exact va_put (ci := ci) hx hb (Ts := u_ws Cn T N) (fun w h => hE.w (h3 w h) (kOk_lay h)) (fun _ h => h) ty0 f2 f3 hown hE.2.1 hP hD hS q0 he h1 k h2 (hE.w h4 rfl) (fun _ h => h) f4 f5 hn hfit hl hdg kk
theorem k_putN {index ci k a : Nat} {ty : FieldType} {fs : List Value} {v : Value} {O : String} (F : kFN own index ci k) (FT : kFT ci k ty false O) (C : kC G p s m c cc nL own A) (hP : va_P G.1 vwCl ws H) (hD : va_D A ws) (hS : va_S A s.heap H locs) (q0 : Nat) (he : ws[q0]? = some (a, .inr (ci, fs))) (hl : k < fs.length) (hn : narrow ty v = v) (hfit : fits ty v = true) (hdg : decode cc pc = .ok (.putfield index, 3))
    (kk : ∀ (H1 : Heap) (locs1 : List Loc), va_P G.1 vwCl (ws.set q0 (a, .inr (ci, fs.set k v))) H1 → va_D A (ws.set q0 (a, .inr (ci, fs.set k v))) → va_S A s.heap H1 locs1 → W p l e R s m args below meth c H1 locs1 cells slots Q (F0 m (pc + 3) ls rest)) : W p l e R s m args below meth c H locs cells slots Q (F0 m pc ls (v :: .ref a :: rest)) := by
  obtain ⟨Cn, T, N, h1, h2, h3, h4⟩ := F
  obtain ⟨C2, T2, N2, ty0, f1, f2, f3, f4, f5, f6⟩ := FT
  cases Option.some.inj (h1.symm.trans f1)
  obtain ⟨hx, hb, -, hown, hE, -, -⟩ := C
  exact va_putN (ci := ci) hx hb (Ts := u_ws Cn T N) (fun w h => hE.w (h3 w h) (kOk_lay h)) (fun _ h => h) ty0 f2 f3 hown hE.2.1 hP hD hS q0 he h1 k h2 (hE.w h4 rfl) (fun _ h => h) f4 f5 hn hfit hl hdg kk
theorem k_putF {index ci k a : Nat} {ty : FieldType} {fs : List Value} {v : Value} (F : kFL own index ci k) (FT : kFT ci k ty true own) (C : kC G p s m c cc nL own A) (hin2 : meth.name = "<init>") (hP : va_P G.1 vwCl ws H) (hD : va_D A ws) (hS : va_S A s.heap H locs) (q0 : Nat) (he : ws[q0]? = some (a, .inr (ci, fs))) (hl : k < fs.length) (hn : narrow ty v = v) (hfit : fits ty v = true) (hdg : decode cc pc = .ok (.putfield index, 3))
    (kk : ∀ (H1 : Heap) (locs1 : List Loc), va_P G.1 vwCl (ws.set q0 (a, .inr (ci, fs.set k v))) H1 → va_D A (ws.set q0 (a, .inr (ci, fs.set k v))) → va_S A s.heap H1 locs1 → W p l e R s m args below meth c H1 locs1 cells slots Q (F0 m (pc + 3) ls rest)) : W p l e R s m args below meth c H locs cells slots Q (F0 m pc ls (v :: .ref a :: rest)) := by
  obtain ⟨Cn, T, N, h1, h2, h3, h4⟩ := F
  obtain ⟨C2, T2, N2, ty0, f1, f2, f3, f4, f5, f6⟩ := FT
  cases Option.some.inj (h1.symm.trans f1)
  obtain ⟨hx, hb, -, hown, hE, -, -⟩ := C
  exact va_putF (ci := ci) hx hb (Ts := u_ws Cn T N) (fun w h => hE.w (h3 w h) (kOk_lay h)) (fun _ h => h) ty0 f2 f3 hown hE.2.1 hP hD hS q0 he h1 k h2 (hE.w h4 rfl) (fun _ h => h) f4 hin2 f6 f5 hn hfit hl hdg kk
theorem k_iald {a n : Nat} {f : Nat → Int32} {i : Int32} (C : kC G p s m c cc nL own A) (hP : va_P G.1 vwCl ws H) (q0 : Nat) (ha : ws[q0]? = some (a, .inl (G.2.1, n, .inl f))) (hin : vp_in i n) (hdg : decode cc pc = .ok (.iaload, 1)) (kk : W p l e R s m args below meth c H locs cells slots Q (F0 m (pc + 1) ls (.int (f i.toNatClampNeg) :: rest))) : W p l e R s m args below meth c H locs cells slots Q (F0 m pc ls (.int i :: .ref a :: rest)) :=
  va_iald C.1 C.2.1 C.2.2.2.2.1.2.1 hP q0 0 ha rfl hin hdg kk
theorem k_iast {a n : Nat} {f : Nat → Int32} {i x : Int32} (C : kC G p s m c cc nL own A) (hP : va_P G.1 vwCl ws H) (hD : va_D A ws) (hS : va_S A s.heap H locs) (q0 : Nat) (ha : ws[q0]? = some (a, .inl (G.2.1, n, .inl f))) (hin : vp_in i n) (hdg : decode cc pc = .ok (.iastore, 1)) (kk : ∀ (H1 : Heap) (locs1 : List Loc), va_P G.1 vwCl (ws.set q0 (a, .inl (G.2.1, n, .inl (upd f i.toNatClampNeg x)))) H1 → va_D A (ws.set q0 (a, .inl (G.2.1, n, .inl (upd f i.toNatClampNeg x)))) → va_S A s.heap H1 locs1 → W p l e R s m args below meth c H1 locs1 cells slots Q (F0 m (pc + 1) ls rest)) : W p l e R s m args below meth c H locs cells slots Q (F0 m pc ls (.int x :: .int i :: .ref a :: rest)) :=
  va_iast C.1 C.2.1 C.2.2.2.2.1.2.1 hP hD hS q0 0 ha rfl hin hdg kk
theorem k_zald {a n : Nat} {f : Nat → Int32} {i : Int32} (C : kC G p s m c cc nL own A) (hP : va_P G.1 vwCl ws H) (q0 : Nat) (ha : ws[q0]? = some (a, .inl (G.2.2.1, n, .inl f))) (hin : vp_in i n) (hdg : decode cc pc = .ok (.baload, 1)) (kk : W p l e R s m args below meth c H locs cells slots Q (F0 m (pc + 1) ls (.int (f i.toNatClampNeg) :: rest))) : W p l e R s m args below meth c H locs cells slots Q (F0 m pc ls (.int i :: .ref a :: rest)) :=
  va_zald C.1 C.2.1 C.2.2.2.2.1.2.1 hP q0 1 ha rfl hin hdg kk
theorem k_zast {a n : Nat} {f : Nat → Int32} {i x : Int32} (C : kC G p s m c cc nL own A) (hP : va_P G.1 vwCl ws H) (hD : va_D A ws) (hS : va_S A s.heap H locs) (q0 : Nat) (ha : ws[q0]? = some (a, .inl (G.2.2.1, n, .inl f))) (hin : vp_in i n) (hdg : decode cc pc = .ok (.bastore, 1)) (kk : ∀ (H1 : Heap) (locs1 : List Loc), va_P G.1 vwCl (ws.set q0 (a, .inl (G.2.2.1, n, .inl (upd f i.toNatClampNeg (vp_nar .boolean x))))) H1 → va_D A (ws.set q0 (a, .inl (G.2.2.1, n, .inl (upd f i.toNatClampNeg (vp_nar .boolean x))))) → va_S A s.heap H1 locs1 → W p l e R s m args below meth c H1 locs1 cells slots Q (F0 m (pc + 1) ls rest)) : W p l e R s m args below meth c H locs cells slots Q (F0 m pc ls (.int x :: .int i :: .ref a :: rest)) :=
  va_zast C.1 C.2.1 C.2.2.2.2.1.2.1 hP hD hS q0 1 ha rfl hin hdg kk
theorem k_lald {a n : Nat} {f : Nat → Int64} {i : Int32} (C : kC G p s m c cc nL own A) (hP : va_P G.1 vwCl ws H) (q0 : Nat) (ha : ws[q0]? = some (a, .inl (G.2.2.2.2, n, .inr (.inl f)))) (hin : vp_in i n) (hdg : decode cc pc = .ok (.laload, 1)) (kk : W p l e R s m args below meth c H locs cells slots Q (F0 m (pc + 1) ls (.long (f i.toNatClampNeg) :: rest))) : W p l e R s m args below meth c H locs cells slots Q (F0 m pc ls (.int i :: .ref a :: rest)) :=
  va_lald C.1 C.2.1 C.2.2.2.2.1.2.1 hP q0 3 ha rfl hin hdg kk
theorem k_last {a n : Nat} {f : Nat → Int64} {i : Int32} {x : Int64} (C : kC G p s m c cc nL own A) (hP : va_P G.1 vwCl ws H) (hD : va_D A ws) (hS : va_S A s.heap H locs) (q0 : Nat) (ha : ws[q0]? = some (a, .inl (G.2.2.2.2, n, .inr (.inl f)))) (hin : vp_in i n) (hdg : decode cc pc = .ok (.lastore, 1)) (kk : ∀ (H1 : Heap) (locs1 : List Loc), va_P G.1 vwCl (ws.set q0 (a, .inl (G.2.2.2.2, n, .inr (.inl (vp_updL f i.toNatClampNeg x))))) H1 → va_D A (ws.set q0 (a, .inl (G.2.2.2.2, n, .inr (.inl (vp_updL f i.toNatClampNeg x))))) → va_S A s.heap H1 locs1 → W p l e R s m args below meth c H1 locs1 cells slots Q (F0 m (pc + 1) ls rest)) : W p l e R s m args below meth c H locs cells slots Q (F0 m pc ls (.long x :: .int i :: .ref a :: rest)) :=
  va_last C.1 C.2.1 C.2.2.2.2.1.2.1 hP hD hS q0 3 ha rfl hin hdg kk
theorem k_alen {a n : Nat} {f : Nat → Int32} {v : Int32} (C : kC G p s m c cc nL own A) (hP : va_P G.1 vwCl ws H) (q0 : Nat) (ha : ws[q0]? = some (a, .inl (G.2.1, n, .inl f))) (hv : Int32.ofNat n = v) (hdg : decode cc pc = .ok (.arraylength, 1)) (kk : W p l e R s m args below meth c H locs cells slots Q (F0 m (pc + 1) ls (.int v :: rest))) : W p l e R s m args below meth c H locs cells slots Q (F0 m pc ls (.ref a :: rest)) :=
  va_alen C.1 C.2.1 C.2.2.2.2.1.2.1 hP q0 0 ha rfl hv hdg kk
theorem k_newI {N' : Nat} {n : Int32} (hm : Cond.arrayClass .int ∈ lw_tbl) (C : kC G p s m c cc nL own A) (hP : va_P G.1 vwCl ws H) (hD : va_D A ws) (hS : va_S A s.heap H locs) (hn : ¬ n < 0) (hN : n.toNatClampNeg = N') (hbytes : N' * componentBytes .int ≤ 536870912) (hcells : cells + 1 ≤ R.cells) (hslots : slots + N' ≤ R.slots) (hdg : decode cc pc = .ok (.newarray .int, 2))
    (kk : ∀ (q : Nat) (H1 : Heap), va_P G.1 vwCl (ws ++ [(q, .inl (G.2.1, N', .inl (fun _ => 0)))]) H1 → va_D A (ws ++ [(q, .inl (G.2.1, N', .inl (fun _ => 0)))]) → va_S A s.heap H1 locs → W p l e R s m args below meth c H1 locs (cells + 1) (slots + N') Q (F0 m (pc + 2) ls (.ref q :: rest))) : W p l e R s m args below meth c H locs cells slots Q (F0 m pc ls (.int n :: rest)) := by
  obtain ⟨hx, hb, -, hown, hE, -, hA⟩ := C
  refine va_newa hx hb (atype := .int) (hE.w (w := .arrayClass .int) hm rfl) rfl hE.2.1 hP hD hS hA (a0 := (N', .inl (fun _ => 0))) (fun _ => rfl) hn hN hbytes hcells hslots hdg (fun q cA H1 hK' hP' hD' hS' => ?_)
  have e1 : s.vm.findClass ("[" ++ FieldType.toString .int) = some cA := (hK'.2 4 _ rfl).2
  have e2 : s.vm.findClass ("[" ++ FieldType.toString .int) = some G.2.1 := (hE.2.1.2 0 _ rfl).2
  cases Option.some.inj (e1.symm.trans e2)
  exact kk q H1 hP' hD' hS'
theorem k_newZ {N' : Nat} {n : Int32} (hm : Cond.arrayClass .boolean ∈ lw_tbl) (C : kC G p s m c cc nL own A) (hP : va_P G.1 vwCl ws H) (hD : va_D A ws) (hS : va_S A s.heap H locs) (hn : ¬ n < 0) (hN : n.toNatClampNeg = N') (hbytes : N' * componentBytes .boolean ≤ 536870912) (hcells : cells + 1 ≤ R.cells) (hslots : slots + N' ≤ R.slots) (hdg : decode cc pc = .ok (.newarray .boolean, 2))
    (kk : ∀ (q : Nat) (H1 : Heap), va_P G.1 vwCl (ws ++ [(q, .inl (G.2.2.1, N', .inl (fun _ => 0)))]) H1 → va_D A (ws ++ [(q, .inl (G.2.2.1, N', .inl (fun _ => 0)))]) → va_S A s.heap H1 locs → W p l e R s m args below meth c H1 locs (cells + 1) (slots + N') Q (F0 m (pc + 2) ls (.ref q :: rest))) : W p l e R s m args below meth c H locs cells slots Q (F0 m pc ls (.int n :: rest)) := by
  obtain ⟨hx, hb, -, hown, hE, -, hA⟩ := C
  refine va_newa hx hb (atype := .boolean) (hE.w (w := .arrayClass .boolean) hm rfl) rfl hE.2.1 hP hD hS hA (a0 := (N', .inl (fun _ => 0))) (fun _ => rfl) hn hN hbytes hcells hslots hdg (fun q cA H1 hK' hP' hD' hS' => ?_)
  have e1 : s.vm.findClass ("[" ++ FieldType.toString .boolean) = some cA := (hK'.2 4 _ rfl).2
  have e2 : s.vm.findClass ("[" ++ FieldType.toString .boolean) = some G.2.2.1 := (hE.2.1.2 1 _ rfl).2
  cases Option.some.inj (e1.symm.trans e2)
  exact kk q H1 hP' hD' hS'
theorem k_newJ {N' : Nat} {n : Int32} (hm : Cond.arrayClass .long ∈ lw_tbl) (C : kC G p s m c cc nL own A) (hP : va_P G.1 vwCl ws H) (hD : va_D A ws) (hS : va_S A s.heap H locs) (hn : ¬ n < 0) (hN : n.toNatClampNeg = N') (hbytes : N' * componentBytes .long ≤ 536870912) (hcells : cells + 1 ≤ R.cells) (hslots : slots + N' ≤ R.slots) (hdg : decode cc pc = .ok (.newarray .long, 2))
    (kk : ∀ (q : Nat) (H1 : Heap), va_P G.1 vwCl (ws ++ [(q, .inl (G.2.2.2.2, N', .inr (.inl (fun _ => 0))))]) H1 → va_D A (ws ++ [(q, .inl (G.2.2.2.2, N', .inr (.inl (fun _ => 0))))]) → va_S A s.heap H1 locs → W p l e R s m args below meth c H1 locs (cells + 1) (slots + N') Q (F0 m (pc + 2) ls (.ref q :: rest))) : W p l e R s m args below meth c H locs cells slots Q (F0 m pc ls (.int n :: rest)) := by
  obtain ⟨hx, hb, -, hown, hE, -, hA⟩ := C
  refine va_newa hx hb (atype := .long) (hE.w (w := .arrayClass .long) hm rfl) rfl hE.2.1 hP hD hS hA (a0 := (N', .inr (.inl (fun _ => 0)))) (fun _ => rfl) hn hN hbytes hcells hslots hdg (fun q cA H1 hK' hP' hD' hS' => ?_)
  have e1 : s.vm.findClass ("[" ++ FieldType.toString .long) = some cA := (hK'.2 4 _ rfl).2
  have e2 : s.vm.findClass ("[" ++ FieldType.toString .long) = some G.2.2.2.2 := (hE.2.1.2 3 _ rfl).2
  cases Option.some.inj (e1.symm.trans e2)
  exact kk q H1 hP' hD' hS'
theorem k_newL {N' index : Nat} {n : Int32} (hm : Cond.classLink own index "MarshBells$Lesson" ∈ lw_tbl) (C : kC G p s m c cc nL own A) (hP : va_P G.1 vwCl ws H) (hD : va_D A ws) (hS : va_S A s.heap H locs) (hn : ¬ n < 0) (hN : n.toNatClampNeg = N') (hbytes : N' * 4 ≤ 536870912) (hcells : cells + 1 ≤ R.cells) (hslots : slots + N' ≤ R.slots) (hdg : decode cc pc = .ok (.anewarray index, 3))
    (kk : ∀ (q : Nat) (H1 : Heap), va_P G.1 vwCl (ws ++ [(q, .inl (G.2.2.2.1, N', .inr (.inr (.inr (.inr (fun _ => none))))))]) H1 → va_D A (ws ++ [(q, .inl (G.2.2.2.1, N', .inr (.inr (.inr (.inr (fun _ => none))))))]) → va_S A s.heap H1 locs → W p l e R s m args below meth c H1 locs (cells + 1) (slots + N') Q (F0 m (pc + 3) ls (.ref q :: rest))) : W p l e R s m args below meth c H locs cells slots Q (F0 m pc ls (.int n :: rest)) := by
  obtain ⟨hx, hb, -, hown, hE, -, hA⟩ := C
  refine va_newq hx hb hown (hE.w hm rfl) hE.2.2.1 hE.2.1 hP hD hS hA hn hN hbytes hcells hslots hdg (fun q cA H1 hK' hP' hD' hS' => ?_)
  obtain ⟨kA, comp, -, -, -, e1⟩ : va_RA s cA (.object "MarshBells$Lesson") := (hK'.2 4 _ rfl).2
  obtain ⟨kA2, comp2, -, -, -, e2⟩ : va_RA s G.2.2.2.1 (.object "MarshBells$Lesson") := (hE.2.1.2 2 _ rfl).2
  cases Option.some.inj (e1.symm.trans e2)
  exact kk q H1 hP' hD' hS'
theorem k_new {index ci N : Nat} {Cn : String} {T : u_T} {fs : List Value} (ty : Nat → FieldType) (hin : ∀ w ∈ u_ws Cn T N, w ∈ lw_tbl) (hty : ∀ k, k < N → parseFieldDescriptor (T k).2.2.1 = some (ty k)) (hm : Cond.classLink own index Cn ∈ lw_tbl ∧ Cond.instantiable Cn N ∈ lw_tbl ∧ Cond.initialized Cn ∈ lw_tbl) (hc : vwCl[ci]? = some (Cn, T, N)) (hfs : ∀ j, j < N → defaultValue (ty j) = vp_V fs j)
    (C : kC G p s m c cc nL own A) (hP : va_P G.1 vwCl ws H) (hD : va_D A ws) (hS : va_S A s.heap H locs) (hcells : cells + 1 ≤ R.cells) (hslots : slots + N ≤ R.slots) (hdg : decode cc pc = .ok (.new index, 3))
    (kk : ∀ (q : Nat) (H1 : Heap), va_P G.1 vwCl (ws ++ [(q, .inr (ci, fs))]) H1 → va_D A (ws ++ [(q, .inr (ci, fs))]) → va_S A s.heap H1 locs → W p l e R s m args below meth c H1 locs (cells + 1) (slots + N) Q (F0 m (pc + 3) ls (.ref q :: rest))) : W p l e R s m args below meth c H locs cells slots Q (F0 m pc ls rest) := by
  obtain ⟨hx, hb, -, hown, hE, -, hA⟩ := C
  exact va_new (ci := ci) hx hb (Ts := u_ws Cn T N) (fun w h => hE.w (hin w h) (kOk_lay h)) (fun _ h => h) ty hty hown (hE.w hm.1 rfl) (hE.w hm.2.1 rfl) (hE.w hm.2.2 rfl) hE.2.1 hP hD hS hA hc hfs hcells hslots hdg kk
theorem k_obj {index a : Nat} (hm : Cond.methodLink own index Lib.objectInit ∈ lw_tbl ∧ Cond.instanceMethod Lib.objectInit ∈ lw_tbl ∧ Cond.code Lib.objectInit ⟨#[0xb1]⟩ 1 none ∈ lw_tbl) (C : kC G p s m c cc nL own A) (hsz : ls.size = nL) (hdg : decode cc pc = .ok (.invokespecial index, 3)) (hf : 1 ≤ R.frames) (hl : (rest.map fun v => v.category).sum + 12 ≤ R.locals)
    (kk : W p l e R s m args below meth c H locs cells slots Q (F0 m (pc + 3) ls rest)) : W p l e R s m args below meth c H locs cells slots Q (F0 m pc ls (.ref a :: rest)) := by
  obtain ⟨hx, hb, hml, hown, hE, -, hA⟩ := C
  exact W.objInit hx hb hown (hE.w hm.1 rfl) (hE.w hm.2.1 rfl) (hE.w hm.2.2 rfl) rfl (hsz.trans hml.symm) rfl hdg hf (by show 2 * 0 + _ + 12 ≤ _; omega) kk
theorem k_fm {ws wc : va_W} {is : List Nat} (h : is.map (fun i => ws[i]?) = wc.map some) : is.filterMap (fun i => ws[i]?) = wc := by
  have e : is.filterMap (fun i => ws[i]?) = (is.map (fun i => ws[i]?)).filterMap id := by rw [List.filterMap_map]; rfl
  rw [e, h, List.filterMap_map]
  exact List.filterMap_some
theorem k_cut {wc : va_W} (C : kC G p s m c cc nL own A) (hP : va_P G.1 vwCl ws H) (hD : va_D A ws) (hS : va_S A s.heap H locs) (isC : List Nat) (hC : isC.map (fun i => ws[i]?) = wc.map some) (hn0 : va_nd isC = true) (av : List Value) :
    va_P G.1 vwCl wc H ∧ (∀ q, va_A wc H.size q → A q) ∧ ∀ U : State, U.heap = H → s.WarmedH U.vm → kP G av wc H.size av.toArray U := by
  obtain ⟨hx, hb, hml, hown, hE, hXx, hA⟩ := C
  have hPc : va_P G.1 vwCl wc H := hP.sub isC (k_fm hC)
  have hDc : va_D A wc := hD.sub isC hn0 hC
  have hFc := va_free (wc := wc) hD hS hA isC hC
  refine ⟨hPc, hFc, fun U hU hW => ⟨rfl, by rw [hU], by rw [hU]; exact hPc, hDc.weaken (fun _ _ _ _ => trivial), hE.warm hW, ?_⟩⟩
  rw [hU]
  exact ((hXx.kept hS.2.1).narrow hFc).moved hW.alike
theorem k_callVi {S : Type} {post : Int32 → S → Prop} {w : S → va_W} {index n maxL : Nat} {y : MethodName} {bytes : ByteArray} {rm : Room} {b : Nat} {As : List Value} {wc wr : va_W} {Cn : String} {ret : Option FieldType} (L : kLV own index Cn y bytes maxL ret n) (C : kC G p s m c cc nL own A) (hM : kM l y bytes maxL ret rm G (.ref b :: As) wc H.size (kQi G post w)) (hR : kLR rm R maxL cells slots) (hP : va_P G.1 vwCl ws H) (hD : va_D A ws) (hS : va_S A s.heap H locs) (isC isR : List Nat) (hC : isC.map (fun i => ws[i]?) = wc.map some) (hRr : isR.map (fun i => ws[i]?) = wr.map some) (hn0 : va_nd isC = true) (hn1 : va_nd isR = true) (hdis : ∀ i ∈ isR, i ∉ isC) (q0 ci : Nat) {cq : u_T × Nat} (hq : vwCl[ci]? = some (Cn, cq)) {fs : List Value} (he : wc[q0]? = some (b, .inr (ci, fs))) (hn : As.length = n) (hsz : ls.size = nL) (hst : st0 = As.reverse ++ .ref b :: rest) (hW : (rest.map fun v => v.category).sum ≤ 8) (hdg : decode cc pc = .ok (.invokevirtual index, 3))
    (kk : ∀ (r : Int32) (u : S) (H1 : Heap) (locs1 : List Loc), post r u → va_P G.1 vwCl (wr ++ w u) H1 → va_D A (wr ++ w u) → va_S A s.heap H1 locs1 → W p l e R s m args below meth c H1 locs1 (cells + rm.cells) (slots + rm.slots) Q (F0 m (pc + 3) ls (.int r :: rest))) : W p l e R s m args below meth c H locs cells slots Q (F0 m pc ls st0) := by
  obtain ⟨hPc, hFc, hpre⟩ := k_cut C hP hD hS isC hC hn0 (.ref b :: As)
  obtain ⟨hx, hb, hml, hown, hE, hXx, hA⟩ := C
  obtain ⟨w1, w2, w3, w4, w5, w6⟩ := L
  refine va_calli (a := (.ref b :: As).toArray) (va_runV (As := As) (rest := rest) (Ts := []) ⟨hx, hb, hml, hown, fun _ h => nomatch h⟩ hM ⟨⟨rfl, rfl, hR.1, hR.2.1, (fun w hw a' U hW => by rw [List.mem_singleton.mp hw]; exact (hE.warm hW).w w4 rfl), List.mem_cons_self, hE.w w4 rfl, hE.w w5 rfl, ⟨w6.2.1, w6.2.2.1⟩, (fun sig h => by have h2 := w6.2.2.2; rw [h] at h2; exact (Option.some.inj h2).symm), hE.w w1 rfl⟩, hE.w w2 rfl, hE.w w3 rfl⟩ ⟨kP.blind, va_recv hE.2.1 hPc hq he, hpre⟩ rfl hn hsz hst (lv_room hW) hdg ⟨hR.2.2.1, hR.2.2.2⟩) hS (fun q _ h => hFc q h) hFc (fun r u t H1 locs1 ht hvm hw hB hz1 hk1 hS1 => ?_)
  obtain ⟨hB1, hB2⟩ := hB
  rw [ht] at hB1
  obtain ⟨hP1, hD1⟩ := va_join hP hD isC isR hC hRr hn1 hdis hk1 hFc hB1 hB2
  exact kk r u H1 locs1 hw hP1 hD1 hS1
theorem k_callVv {S : Type} {post : S → Prop} {w : S → va_W} {index n maxL : Nat} {y : MethodName} {bytes : ByteArray} {rm : Room} {b : Nat} {As : List Value} {wc wr : va_W} {Cn : String} {ret : Option FieldType} (L : kLV own index Cn y bytes maxL ret n) (C : kC G p s m c cc nL own A) (hM : kM l y bytes maxL ret rm G (.ref b :: As) wc H.size (kQv G post w)) (hR : kLR rm R maxL cells slots) (hP : va_P G.1 vwCl ws H) (hD : va_D A ws) (hS : va_S A s.heap H locs) (isC isR : List Nat) (hC : isC.map (fun i => ws[i]?) = wc.map some) (hRr : isR.map (fun i => ws[i]?) = wr.map some) (hn0 : va_nd isC = true) (hn1 : va_nd isR = true) (hdis : ∀ i ∈ isR, i ∉ isC) (q0 ci : Nat) {cq : u_T × Nat} (hq : vwCl[ci]? = some (Cn, cq)) {fs : List Value} (he : wc[q0]? = some (b, .inr (ci, fs))) (hn : As.length = n) (hsz : ls.size = nL) (hst : st0 = As.reverse ++ .ref b :: rest) (hW : (rest.map fun v => v.category).sum ≤ 8) (hdg : decode cc pc = .ok (.invokevirtual index, 3))
    (kk : ∀ (u : S) (H1 : Heap) (locs1 : List Loc), post u → va_P G.1 vwCl (wr ++ w u) H1 → va_D A (wr ++ w u) → va_S A s.heap H1 locs1 → W p l e R s m args below meth c H1 locs1 (cells + rm.cells) (slots + rm.slots) Q (F0 m (pc + 3) ls rest)) : W p l e R s m args below meth c H locs cells slots Q (F0 m pc ls st0) := by
  obtain ⟨hPc, hFc, hpre⟩ := k_cut C hP hD hS isC hC hn0 (.ref b :: As)
  obtain ⟨hx, hb, hml, hown, hE, hXx, hA⟩ := C
  obtain ⟨w1, w2, w3, w4, w5, w6⟩ := L
  refine va_callv (a := (.ref b :: As).toArray) (va_runV (As := As) (rest := rest) (Ts := []) ⟨hx, hb, hml, hown, fun _ h => nomatch h⟩ hM ⟨⟨rfl, rfl, hR.1, hR.2.1, (fun w hw a' U hW => by rw [List.mem_singleton.mp hw]; exact (hE.warm hW).w w4 rfl), List.mem_cons_self, hE.w w4 rfl, hE.w w5 rfl, ⟨w6.2.1, w6.2.2.1⟩, (fun sig h => by have h2 := w6.2.2.2; rw [h] at h2; exact (Option.some.inj h2).symm), hE.w w1 rfl⟩, hE.w w2 rfl, hE.w w3 rfl⟩ ⟨kP.blind, va_recv hE.2.1 hPc hq he, hpre⟩ rfl hn hsz hst (lv_room hW) hdg ⟨hR.2.2.1, hR.2.2.2⟩) hS (fun q _ h => hFc q h) hFc (fun u t H1 locs1 ht hvm hw hB hz1 hk1 hS1 => ?_)
  obtain ⟨hB1, hB2⟩ := hB
  rw [ht] at hB1
  obtain ⟨hP1, hD1⟩ := va_join hP hD isC isR hC hRr hn1 hdis hk1 hFc hB1 hB2
  exact kk u H1 locs1 hw hP1 hD1 hS1
theorem k_callVl {S : Type} {post : Int64 → S → Prop} {w : S → va_W} {index n maxL : Nat} {y : MethodName} {bytes : ByteArray} {rm : Room} {b : Nat} {As : List Value} {wc wr : va_W} {Cn : String} {ret : Option FieldType} (L : kLV own index Cn y bytes maxL ret n) (C : kC G p s m c cc nL own A) (hM : kM l y bytes maxL ret rm G (.ref b :: As) wc H.size (kQl G post w)) (hR : kLR rm R maxL cells slots) (hP : va_P G.1 vwCl ws H) (hD : va_D A ws) (hS : va_S A s.heap H locs) (isC isR : List Nat) (hC : isC.map (fun i => ws[i]?) = wc.map some) (hRr : isR.map (fun i => ws[i]?) = wr.map some) (hn0 : va_nd isC = true) (hn1 : va_nd isR = true) (hdis : ∀ i ∈ isR, i ∉ isC) (q0 ci : Nat) {cq : u_T × Nat} (hq : vwCl[ci]? = some (Cn, cq)) {fs : List Value} (he : wc[q0]? = some (b, .inr (ci, fs))) (hn : As.length = n) (hsz : ls.size = nL) (hst : st0 = As.reverse ++ .ref b :: rest) (hW : (rest.map fun v => v.category).sum ≤ 8) (hdg : decode cc pc = .ok (.invokevirtual index, 3))
    (kk : ∀ (r : Int64) (u : S) (H1 : Heap) (locs1 : List Loc), post r u → va_P G.1 vwCl (wr ++ w u) H1 → va_D A (wr ++ w u) → va_S A s.heap H1 locs1 → W p l e R s m args below meth c H1 locs1 (cells + rm.cells) (slots + rm.slots) Q (F0 m (pc + 3) ls (.long r :: rest))) : W p l e R s m args below meth c H locs cells slots Q (F0 m pc ls st0) := by
  obtain ⟨hPc, hFc, hpre⟩ := k_cut C hP hD hS isC hC hn0 (.ref b :: As)
  obtain ⟨hx, hb, hml, hown, hE, hXx, hA⟩ := C
  obtain ⟨w1, w2, w3, w4, w5, w6⟩ := L
  refine va_calll (a := (.ref b :: As).toArray) (va_runV (As := As) (rest := rest) (Ts := []) ⟨hx, hb, hml, hown, fun _ h => nomatch h⟩ hM ⟨⟨rfl, rfl, hR.1, hR.2.1, (fun w hw a' U hW => by rw [List.mem_singleton.mp hw]; exact (hE.warm hW).w w4 rfl), List.mem_cons_self, hE.w w4 rfl, hE.w w5 rfl, ⟨w6.2.1, w6.2.2.1⟩, (fun sig h => by have h2 := w6.2.2.2; rw [h] at h2; exact (Option.some.inj h2).symm), hE.w w1 rfl⟩, hE.w w2 rfl, hE.w w3 rfl⟩ ⟨kP.blind, va_recv hE.2.1 hPc hq he, hpre⟩ rfl hn hsz hst (lv_room hW) hdg ⟨hR.2.2.1, hR.2.2.2⟩) hS (fun q _ h => hFc q h) hFc (fun r u t H1 locs1 ht hvm hw hB hz1 hk1 hS1 => ?_)
  obtain ⟨hB1, hB2⟩ := hB
  rw [ht] at hB1
  obtain ⟨hP1, hD1⟩ := va_join hP hD isC isR hC hRr hn1 hdis hk1 hFc hB1 hB2
  exact kk r u H1 locs1 hw hP1 hD1 hS1
theorem k_callNi {S : Type} {post : Int32 → S → Prop} {w : S → va_W} {index n maxL : Nat} {y : MethodName} {bytes : ByteArray} {rm : Room} {b : Nat} {As : List Value} {wc wr : va_W} {Cn host : String} {ret : Option FieldType} (L : kLN own index Cn y host bytes maxL ret n) (C : kC G p s m c cc nL own A) (hM : kM l y bytes maxL ret rm G (.ref b :: As) wc H.size (kQi G post w)) (hR : kLR rm R maxL cells slots) (hP : va_P G.1 vwCl ws H) (hD : va_D A ws) (hS : va_S A s.heap H locs) (isC isR : List Nat) (hC : isC.map (fun i => ws[i]?) = wc.map some) (hRr : isR.map (fun i => ws[i]?) = wr.map some) (hn0 : va_nd isC = true) (hn1 : va_nd isR = true) (hdis : ∀ i ∈ isR, i ∉ isC) (q0 ci : Nat) {cq : u_T × Nat} (hq : vwCl[ci]? = some (Cn, cq)) {fs : List Value} (he : wc[q0]? = some (b, .inr (ci, fs))) (hn : As.length = n) (hsz : ls.size = nL) (hst : st0 = As.reverse ++ .ref b :: rest) (hW : (rest.map fun v => v.category).sum ≤ 8) (hdg : decode cc pc = .ok (.invokevirtual index, 3))
    (kk : ∀ (r : Int32) (u : S) (H1 : Heap) (locs1 : List Loc), post r u → va_P G.1 vwCl (wr ++ w u) H1 → va_D A (wr ++ w u) → va_S A s.heap H1 locs1 → W p l e R s m args below meth c H1 locs1 (cells + rm.cells) (slots + rm.slots) Q (F0 m (pc + 3) ls (.int r :: rest))) : W p l e R s m args below meth c H locs cells slots Q (F0 m pc ls st0) := by
  obtain ⟨hPc, hFc, hpre⟩ := k_cut C hP hD hS isC hC hn0 (.ref b :: As)
  obtain ⟨hx, hb, hml, hown, hE, hXx, hA⟩ := C
  obtain ⟨w1, w2, w3, w4, w5, w6⟩ := L
  refine va_calli (a := (.ref b :: As).toArray) (va_runVN (As := As) (rest := rest) (Ts := []) ⟨hx, hb, hml, hown, fun _ h => nomatch h⟩ hM ⟨⟨⟨rfl, rfl, hR.1, hR.2.1, (fun w hw a' U hW => by rw [List.mem_singleton.mp hw]; exact (hE.warm hW).w w4 rfl), List.mem_cons_self⟩, hE.w w4 rfl, hE.w w5 rfl, ⟨w6.2.1, w6.2.2.1⟩, (fun sig h => by have h2 := w6.2.2.2; rw [h] at h2; exact (Option.some.inj h2).symm), hE.w w1 rfl⟩, hE.w w2 rfl, hE.w w3 rfl⟩ ⟨kP.blind, va_recv hE.2.1 hPc hq he, hpre⟩ rfl hn hsz hst (lv_room hW) hdg ⟨hR.2.2.1, hR.2.2.2⟩) hS (fun q _ h => hFc q h) hFc (fun r u t H1 locs1 ht hvm hw hB hz1 hk1 hS1 => ?_)
  obtain ⟨hB1, hB2⟩ := hB
  rw [ht] at hB1
  obtain ⟨hP1, hD1⟩ := va_join hP hD isC isR hC hRr hn1 hdis hk1 hFc hB1 hB2
  exact kk r u H1 locs1 hw hP1 hD1 hS1
theorem k_callNv {S : Type} {post : S → Prop} {w : S → va_W} {index n maxL : Nat} {y : MethodName} {bytes : ByteArray} {rm : Room} {b : Nat} {As : List Value} {wc wr : va_W} {Cn host : String} {ret : Option FieldType} (L : kLN own index Cn y host bytes maxL ret n) (C : kC G p s m c cc nL own A) (hM : kM l y bytes maxL ret rm G (.ref b :: As) wc H.size (kQv G post w)) (hR : kLR rm R maxL cells slots) (hP : va_P G.1 vwCl ws H) (hD : va_D A ws) (hS : va_S A s.heap H locs) (isC isR : List Nat) (hC : isC.map (fun i => ws[i]?) = wc.map some) (hRr : isR.map (fun i => ws[i]?) = wr.map some) (hn0 : va_nd isC = true) (hn1 : va_nd isR = true) (hdis : ∀ i ∈ isR, i ∉ isC) (q0 ci : Nat) {cq : u_T × Nat} (hq : vwCl[ci]? = some (Cn, cq)) {fs : List Value} (he : wc[q0]? = some (b, .inr (ci, fs))) (hn : As.length = n) (hsz : ls.size = nL) (hst : st0 = As.reverse ++ .ref b :: rest) (hW : (rest.map fun v => v.category).sum ≤ 8) (hdg : decode cc pc = .ok (.invokevirtual index, 3))
    (kk : ∀ (u : S) (H1 : Heap) (locs1 : List Loc), post u → va_P G.1 vwCl (wr ++ w u) H1 → va_D A (wr ++ w u) → va_S A s.heap H1 locs1 → W p l e R s m args below meth c H1 locs1 (cells + rm.cells) (slots + rm.slots) Q (F0 m (pc + 3) ls rest)) : W p l e R s m args below meth c H locs cells slots Q (F0 m pc ls st0) := by
  obtain ⟨hPc, hFc, hpre⟩ := k_cut C hP hD hS isC hC hn0 (.ref b :: As)
  obtain ⟨hx, hb, hml, hown, hE, hXx, hA⟩ := C
  obtain ⟨w1, w2, w3, w4, w5, w6⟩ := L
  refine va_callv (a := (.ref b :: As).toArray) (va_runVN (As := As) (rest := rest) (Ts := []) ⟨hx, hb, hml, hown, fun _ h => nomatch h⟩ hM ⟨⟨⟨rfl, rfl, hR.1, hR.2.1, (fun w hw a' U hW => by rw [List.mem_singleton.mp hw]; exact (hE.warm hW).w w4 rfl), List.mem_cons_self⟩, hE.w w4 rfl, hE.w w5 rfl, ⟨w6.2.1, w6.2.2.1⟩, (fun sig h => by have h2 := w6.2.2.2; rw [h] at h2; exact (Option.some.inj h2).symm), hE.w w1 rfl⟩, hE.w w2 rfl, hE.w w3 rfl⟩ ⟨kP.blind, va_recv hE.2.1 hPc hq he, hpre⟩ rfl hn hsz hst (lv_room hW) hdg ⟨hR.2.2.1, hR.2.2.2⟩) hS (fun q _ h => hFc q h) hFc (fun u t H1 locs1 ht hvm hw hB hz1 hk1 hS1 => ?_)
  obtain ⟨hB1, hB2⟩ := hB
  rw [ht] at hB1
  obtain ⟨hP1, hD1⟩ := va_join hP hD isC isR hC hRr hn1 hdis hk1 hFc hB1 hB2
  exact kk u H1 locs1 hw hP1 hD1 hS1
theorem k_callNl {S : Type} {post : Int64 → S → Prop} {w : S → va_W} {index n maxL : Nat} {y : MethodName} {bytes : ByteArray} {rm : Room} {b : Nat} {As : List Value} {wc wr : va_W} {Cn host : String} {ret : Option FieldType} (L : kLN own index Cn y host bytes maxL ret n) (C : kC G p s m c cc nL own A) (hM : kM l y bytes maxL ret rm G (.ref b :: As) wc H.size (kQl G post w)) (hR : kLR rm R maxL cells slots) (hP : va_P G.1 vwCl ws H) (hD : va_D A ws) (hS : va_S A s.heap H locs) (isC isR : List Nat) (hC : isC.map (fun i => ws[i]?) = wc.map some) (hRr : isR.map (fun i => ws[i]?) = wr.map some) (hn0 : va_nd isC = true) (hn1 : va_nd isR = true) (hdis : ∀ i ∈ isR, i ∉ isC) (q0 ci : Nat) {cq : u_T × Nat} (hq : vwCl[ci]? = some (Cn, cq)) {fs : List Value} (he : wc[q0]? = some (b, .inr (ci, fs))) (hn : As.length = n) (hsz : ls.size = nL) (hst : st0 = As.reverse ++ .ref b :: rest) (hW : (rest.map fun v => v.category).sum ≤ 8) (hdg : decode cc pc = .ok (.invokevirtual index, 3))
    (kk : ∀ (r : Int64) (u : S) (H1 : Heap) (locs1 : List Loc), post r u → va_P G.1 vwCl (wr ++ w u) H1 → va_D A (wr ++ w u) → va_S A s.heap H1 locs1 → W p l e R s m args below meth c H1 locs1 (cells + rm.cells) (slots + rm.slots) Q (F0 m (pc + 3) ls (.long r :: rest))) : W p l e R s m args below meth c H locs cells slots Q (F0 m pc ls st0) := by
  obtain ⟨hPc, hFc, hpre⟩ := k_cut C hP hD hS isC hC hn0 (.ref b :: As)
  obtain ⟨hx, hb, hml, hown, hE, hXx, hA⟩ := C
  obtain ⟨w1, w2, w3, w4, w5, w6⟩ := L
  refine va_calll (a := (.ref b :: As).toArray) (va_runVN (As := As) (rest := rest) (Ts := []) ⟨hx, hb, hml, hown, fun _ h => nomatch h⟩ hM ⟨⟨⟨rfl, rfl, hR.1, hR.2.1, (fun w hw a' U hW => by rw [List.mem_singleton.mp hw]; exact (hE.warm hW).w w4 rfl), List.mem_cons_self⟩, hE.w w4 rfl, hE.w w5 rfl, ⟨w6.2.1, w6.2.2.1⟩, (fun sig h => by have h2 := w6.2.2.2; rw [h] at h2; exact (Option.some.inj h2).symm), hE.w w1 rfl⟩, hE.w w2 rfl, hE.w w3 rfl⟩ ⟨kP.blind, va_recv hE.2.1 hPc hq he, hpre⟩ rfl hn hsz hst (lv_room hW) hdg ⟨hR.2.2.1, hR.2.2.2⟩) hS (fun q _ h => hFc q h) hFc (fun r u t H1 locs1 ht hvm hw hB hz1 hk1 hS1 => ?_)
  obtain ⟨hB1, hB2⟩ := hB
  rw [ht] at hB1
  obtain ⟨hP1, hD1⟩ := va_join hP hD isC isR hC hRr hn1 hdis hk1 hFc hB1 hB2
  exact kk r u H1 locs1 hw hP1 hD1 hS1
theorem k_callSi {S : Type} {post : Int32 → S → Prop} {w : S → va_W} {index n maxL : Nat} {y : MethodName} {bytes : ByteArray} {rm : Room} {As : List Value} {wc wr : va_W} {ret : Option FieldType} (L : kLS own index y bytes maxL ret n) (C : kC G p s m c cc nL own A) (hM : kM l y bytes maxL ret rm G As wc H.size (kQi G post w)) (hR : kLR rm R maxL cells slots) (hP : va_P G.1 vwCl ws H) (hD : va_D A ws) (hS : va_S A s.heap H locs) (isC isR : List Nat) (hC : isC.map (fun i => ws[i]?) = wc.map some) (hRr : isR.map (fun i => ws[i]?) = wr.map some) (hn0 : va_nd isC = true) (hn1 : va_nd isR = true) (hdis : ∀ i ∈ isR, i ∉ isC) (hn : As.length = n) (hsz : ls.size = nL) (hst : st0 = As.reverse ++ rest) (hW : (rest.map fun v => v.category).sum ≤ 8) (hdg : decode cc pc = .ok (.invokestatic index, 3))
    (kk : ∀ (r : Int32) (u : S) (H1 : Heap) (locs1 : List Loc), post r u → va_P G.1 vwCl (wr ++ w u) H1 → va_D A (wr ++ w u) → va_S A s.heap H1 locs1 → W p l e R s m args below meth c H1 locs1 (cells + rm.cells) (slots + rm.slots) Q (F0 m (pc + 3) ls (.int r :: rest))) : W p l e R s m args below meth c H locs cells slots Q (F0 m pc ls st0) := by
  obtain ⟨hPc, hFc, hpre⟩ := k_cut C hP hD hS isC hC hn0 As
  obtain ⟨hx, hb, hml, hown, hE, hXx, hA⟩ := C
  obtain ⟨w1, w2, w4, w5, w6⟩ := L
  refine va_calli (a := As.toArray) (va_runS (As := As) (rest := rest) (Ts := []) ⟨hx, hb, hml, hown, fun _ h => nomatch h⟩ hM ⟨⟨rfl, rfl, hR.1, hR.2.1, (fun w hw a' U hW => by rw [List.mem_singleton.mp hw]; exact (hE.warm hW).w w4 rfl), List.mem_cons_self, hE.w w4 rfl, hE.w w5 rfl, ⟨w6.1, w6.2.1⟩, (fun sig h => by have h2 := w6.2.2; rw [h] at h2; exact (Option.some.inj h2).symm), hE.w w1 rfl⟩, hE.w w2 rfl⟩ ⟨kP.blind, hpre⟩ rfl hn hsz hst (lv_room hW) hdg ⟨hR.2.2.1, hR.2.2.2⟩) hS (fun q _ h => hFc q h) hFc (fun r u t H1 locs1 ht hvm hw hB hz1 hk1 hS1 => ?_)
  obtain ⟨hB1, hB2⟩ := hB
  rw [ht] at hB1
  obtain ⟨hP1, hD1⟩ := va_join hP hD isC isR hC hRr hn1 hdis hk1 hFc hB1 hB2
  exact kk r u H1 locs1 hw hP1 hD1 hS1
theorem k_callSv {S : Type} {post : S → Prop} {w : S → va_W} {index n maxL : Nat} {y : MethodName} {bytes : ByteArray} {rm : Room} {As : List Value} {wc wr : va_W} {ret : Option FieldType} (L : kLS own index y bytes maxL ret n) (C : kC G p s m c cc nL own A) (hM : kM l y bytes maxL ret rm G As wc H.size (kQv G post w)) (hR : kLR rm R maxL cells slots) (hP : va_P G.1 vwCl ws H) (hD : va_D A ws) (hS : va_S A s.heap H locs) (isC isR : List Nat) (hC : isC.map (fun i => ws[i]?) = wc.map some) (hRr : isR.map (fun i => ws[i]?) = wr.map some) (hn0 : va_nd isC = true) (hn1 : va_nd isR = true) (hdis : ∀ i ∈ isR, i ∉ isC) (hn : As.length = n) (hsz : ls.size = nL) (hst : st0 = As.reverse ++ rest) (hW : (rest.map fun v => v.category).sum ≤ 8) (hdg : decode cc pc = .ok (.invokestatic index, 3))
    (kk : ∀ (u : S) (H1 : Heap) (locs1 : List Loc), post u → va_P G.1 vwCl (wr ++ w u) H1 → va_D A (wr ++ w u) → va_S A s.heap H1 locs1 → W p l e R s m args below meth c H1 locs1 (cells + rm.cells) (slots + rm.slots) Q (F0 m (pc + 3) ls rest)) : W p l e R s m args below meth c H locs cells slots Q (F0 m pc ls st0) := by
  obtain ⟨hPc, hFc, hpre⟩ := k_cut C hP hD hS isC hC hn0 As
  obtain ⟨hx, hb, hml, hown, hE, hXx, hA⟩ := C
  obtain ⟨w1, w2, w4, w5, w6⟩ := L
  refine va_callv (a := As.toArray) (va_runS (As := As) (rest := rest) (Ts := []) ⟨hx, hb, hml, hown, fun _ h => nomatch h⟩ hM ⟨⟨rfl, rfl, hR.1, hR.2.1, (fun w hw a' U hW => by rw [List.mem_singleton.mp hw]; exact (hE.warm hW).w w4 rfl), List.mem_cons_self, hE.w w4 rfl, hE.w w5 rfl, ⟨w6.1, w6.2.1⟩, (fun sig h => by have h2 := w6.2.2; rw [h] at h2; exact (Option.some.inj h2).symm), hE.w w1 rfl⟩, hE.w w2 rfl⟩ ⟨kP.blind, hpre⟩ rfl hn hsz hst (lv_room hW) hdg ⟨hR.2.2.1, hR.2.2.2⟩) hS (fun q _ h => hFc q h) hFc (fun u t H1 locs1 ht hvm hw hB hz1 hk1 hS1 => ?_)
  obtain ⟨hB1, hB2⟩ := hB
  rw [ht] at hB1
  obtain ⟨hP1, hD1⟩ := va_join hP hD isC isR hC hRr hn1 hdis hk1 hFc hB1 hB2
  exact kk u H1 locs1 hw hP1 hD1 hS1
theorem k_callSl {S : Type} {post : Int64 → S → Prop} {w : S → va_W} {index n maxL : Nat} {y : MethodName} {bytes : ByteArray} {rm : Room} {As : List Value} {wc wr : va_W} {ret : Option FieldType} (L : kLS own index y bytes maxL ret n) (C : kC G p s m c cc nL own A) (hM : kM l y bytes maxL ret rm G As wc H.size (kQl G post w)) (hR : kLR rm R maxL cells slots) (hP : va_P G.1 vwCl ws H) (hD : va_D A ws) (hS : va_S A s.heap H locs) (isC isR : List Nat) (hC : isC.map (fun i => ws[i]?) = wc.map some) (hRr : isR.map (fun i => ws[i]?) = wr.map some) (hn0 : va_nd isC = true) (hn1 : va_nd isR = true) (hdis : ∀ i ∈ isR, i ∉ isC) (hn : As.length = n) (hsz : ls.size = nL) (hst : st0 = As.reverse ++ rest) (hW : (rest.map fun v => v.category).sum ≤ 8) (hdg : decode cc pc = .ok (.invokestatic index, 3))
    (kk : ∀ (r : Int64) (u : S) (H1 : Heap) (locs1 : List Loc), post r u → va_P G.1 vwCl (wr ++ w u) H1 → va_D A (wr ++ w u) → va_S A s.heap H1 locs1 → W p l e R s m args below meth c H1 locs1 (cells + rm.cells) (slots + rm.slots) Q (F0 m (pc + 3) ls (.long r :: rest))) : W p l e R s m args below meth c H locs cells slots Q (F0 m pc ls st0) := by
  obtain ⟨hPc, hFc, hpre⟩ := k_cut C hP hD hS isC hC hn0 As
  obtain ⟨hx, hb, hml, hown, hE, hXx, hA⟩ := C
  obtain ⟨w1, w2, w4, w5, w6⟩ := L
  refine va_calll (a := As.toArray) (va_runS (As := As) (rest := rest) (Ts := []) ⟨hx, hb, hml, hown, fun _ h => nomatch h⟩ hM ⟨⟨rfl, rfl, hR.1, hR.2.1, (fun w hw a' U hW => by rw [List.mem_singleton.mp hw]; exact (hE.warm hW).w w4 rfl), List.mem_cons_self, hE.w w4 rfl, hE.w w5 rfl, ⟨w6.1, w6.2.1⟩, (fun sig h => by have h2 := w6.2.2; rw [h] at h2; exact (Option.some.inj h2).symm), hE.w w1 rfl⟩, hE.w w2 rfl⟩ ⟨kP.blind, hpre⟩ rfl hn hsz hst (lv_room hW) hdg ⟨hR.2.2.1, hR.2.2.2⟩) hS (fun q _ h => hFc q h) hFc (fun r u t H1 locs1 ht hvm hw hB hz1 hk1 hS1 => ?_)
  obtain ⟨hB1, hB2⟩ := hB
  rw [ht] at hB1
  obtain ⟨hP1, hD1⟩ := va_join hP hD isC isR hC hRr hn1 hdis hk1 hFc hB1 hB2
  exact kk r u H1 locs1 hw hP1 hD1 hS1
theorem k_callIv {S : Type} {post : S → Prop} {w : S → va_W} {index n maxL : Nat} {y : MethodName} {bytes : ByteArray} {rm : Room} {b : Nat} {As : List Value} {wc wr : va_W}  (L : kLI own index y bytes maxL n) (C : kC G p s m c cc nL own A) (hM : kM l y bytes maxL none rm G (.ref b :: As) wc H.size (kQv G post w)) (hR : kLR rm R maxL cells slots) (hP : va_P G.1 vwCl ws H) (hD : va_D A ws) (hS : va_S A s.heap H locs) (isC isR : List Nat) (hC : isC.map (fun i => ws[i]?) = wc.map some) (hRr : isR.map (fun i => ws[i]?) = wr.map some) (hn0 : va_nd isC = true) (hn1 : va_nd isR = true) (hdis : ∀ i ∈ isR, i ∉ isC) (hn : As.length = n) (hsz : ls.size = nL) (hst : st0 = As.reverse ++ .ref b :: rest) (hW : (rest.map fun v => v.category).sum ≤ 8) (hdg : decode cc pc = .ok (.invokespecial index, 3))
    (kk : ∀ (u : S) (H1 : Heap) (locs1 : List Loc), post u → va_P G.1 vwCl (wr ++ w u) H1 → va_D A (wr ++ w u) → va_S A s.heap H1 locs1 → W p l e R s m args below meth c H1 locs1 (cells + rm.cells) (slots + rm.slots) Q (F0 m (pc + 3) ls rest)) : W p l e R s m args below meth c H locs cells slots Q (F0 m pc ls st0) := by
  obtain ⟨hPc, hFc, hpre⟩ := k_cut C hP hD hS isC hC hn0 (.ref b :: As)
  obtain ⟨hx, hb, hml, hown, hE, hXx, hA⟩ := C
  obtain ⟨w1, w2, w4, w5, w7, w6⟩ := L
  refine va_callv (a := (.ref b :: As).toArray) (va_runI (As := As) (rest := rest) (Ts := []) ⟨hx, hb, hml, hown, fun _ h => nomatch h⟩ hM ⟨⟨rfl, rfl, hR.1, hR.2.1, (fun w hw a' U hW => by rw [List.mem_singleton.mp hw]; exact (hE.warm hW).w w4 rfl), List.mem_cons_self, hE.w w4 rfl, hE.w w5 rfl, ⟨w6.1, w6.2.1⟩, (fun sig h => by have h2 := w6.2.2; rw [h] at h2; exact (Option.some.inj h2).symm), hE.w w1 rfl⟩, w7, hE.w w2 rfl⟩ ⟨kP.blind, hpre⟩ rfl hn hsz hst (lv_room hW) hdg ⟨hR.2.2.1, hR.2.2.2⟩) hS (fun q _ h => hFc q h) hFc (fun u t H1 locs1 ht hvm hw hB hz1 hk1 hS1 => ?_)
  obtain ⟨hB1, hB2⟩ := hB
  rw [ht] at hB1
  obtain ⟨hP1, hD1⟩ := va_join hP hD isC isR hC hRr hn1 hdis hk1 hFc hB1 hB2
  exact kk u H1 locs1 hw hP1 hD1 hS1
theorem k_callJv {S : Type} {post : S → Prop} {w : S → va_W} {index n maxL : Nat} {y : MethodName} {bytes : ByteArray} {rm : Room} {b : Nat} {As : List Value} {wc wr : va_W} {host : String} (L : kLJ own index y host bytes maxL n) (C : kC G p s m c cc nL own A) (hM : kM l y bytes maxL none rm G (.ref b :: As) wc H.size (kQv G post w)) (hR : kLR rm R maxL cells slots) (hP : va_P G.1 vwCl ws H) (hD : va_D A ws) (hS : va_S A s.heap H locs) (isC isR : List Nat) (hC : isC.map (fun i => ws[i]?) = wc.map some) (hRr : isR.map (fun i => ws[i]?) = wr.map some) (hn0 : va_nd isC = true) (hn1 : va_nd isR = true) (hdis : ∀ i ∈ isR, i ∉ isC) (hn : As.length = n) (hsz : ls.size = nL) (hst : st0 = As.reverse ++ .ref b :: rest) (hW : (rest.map fun v => v.category).sum ≤ 8) (hdg : decode cc pc = .ok (.invokespecial index, 3))
    (kk : ∀ (u : S) (H1 : Heap) (locs1 : List Loc), post u → va_P G.1 vwCl (wr ++ w u) H1 → va_D A (wr ++ w u) → va_S A s.heap H1 locs1 → W p l e R s m args below meth c H1 locs1 (cells + rm.cells) (slots + rm.slots) Q (F0 m (pc + 3) ls rest)) : W p l e R s m args below meth c H locs cells slots Q (F0 m pc ls st0) := by
  obtain ⟨hPc, hFc, hpre⟩ := k_cut C hP hD hS isC hC hn0 (.ref b :: As)
  obtain ⟨hx, hb, hml, hown, hE, hXx, hA⟩ := C
  obtain ⟨w1, w2, w4, w5, w7, w6⟩ := L
  refine va_callv (a := (.ref b :: As).toArray) (va_runIN (As := As) (rest := rest) (Ts := []) ⟨hx, hb, hml, hown, fun _ h => nomatch h⟩ hM ⟨⟨⟨rfl, rfl, hR.1, hR.2.1, (fun w hw a' U hW => by rw [List.mem_singleton.mp hw]; exact (hE.warm hW).w w4 rfl), List.mem_cons_self⟩, hE.w w4 rfl, hE.w w5 rfl, ⟨w6.1, w6.2.1⟩, (fun sig h => by have h2 := w6.2.2; rw [h] at h2; exact (Option.some.inj h2).symm), hE.w w1 rfl⟩, w7, hE.w w2 rfl⟩ ⟨kP.blind, hpre⟩ rfl hn hsz hst (lv_room hW) hdg ⟨hR.2.2.1, hR.2.2.2⟩) hS (fun q _ h => hFc q h) hFc (fun u t H1 locs1 ht hvm hw hB hz1 hk1 hS1 => ?_)
  obtain ⟨hB1, hB2⟩ := hB
  rw [ht] at hB1
  obtain ⟨hP1, hD1⟩ := va_join hP hD isC isR hC hRr hn1 hdis hk1 hFc hB1 hB2
  exact kk u H1 locs1 hw hP1 hD1 hS1
theorem k_callHi {S : Type} {post : Int32 → S → Prop} {w : S → va_W} {index n maxL : Nat} {y : MethodName} {bytes : ByteArray} {rm : Room} {As : List Value} {wc wr : va_W} {ret : Option FieldType} {hh : List (Nat × Nat × Nat × Nat)} (L : kLH own index y bytes maxL ret hh n) (C : kC G p s m c cc nL own A) (hM : kMH l y bytes maxL ret hh rm G As wc H.size (kQi G post w)) (hR : kLR rm R maxL cells slots) (hP : va_P G.1 vwCl ws H) (hD : va_D A ws) (hS : va_S A s.heap H locs) (isC isR : List Nat) (hC : isC.map (fun i => ws[i]?) = wc.map some) (hRr : isR.map (fun i => ws[i]?) = wr.map some) (hn0 : va_nd isC = true) (hn1 : va_nd isR = true) (hdis : ∀ i ∈ isR, i ∉ isC) (hn : As.length = n) (hsz : ls.size = nL) (hst : st0 = As.reverse ++ rest) (hW : (rest.map fun v => v.category).sum ≤ 8) (hdg : decode cc pc = .ok (.invokestatic index, 3))
    (kk : ∀ (r : Int32) (u : S) (H1 : Heap) (locs1 : List Loc), post r u → va_P G.1 vwCl (wr ++ w u) H1 → va_D A (wr ++ w u) → va_S A s.heap H1 locs1 → W p l e R s m args below meth c H1 locs1 (cells + rm.cells) (slots + rm.slots) Q (F0 m (pc + 3) ls (.int r :: rest))) : W p l e R s m args below meth c H locs cells slots Q (F0 m pc ls st0) := by
  obtain ⟨hPc, hFc, hpre⟩ := k_cut C hP hD hS isC hC hn0 As
  obtain ⟨hx, hb, hml, hown, hE, hXx, hA⟩ := C
  obtain ⟨w1, w2, w4, w5, w6⟩ := L
  refine va_calli (a := As.toArray) (vx_runSW (As := As) (rest := rest) (Ts := []) ⟨hx, hb, hml, hown, fun _ h => nomatch h⟩ hM ⟨⟨rfl, rfl, hR.1, hR.2.1, (fun w hw a' U hW => by rw [List.mem_singleton.mp hw]; exact (hE.warm hW).w w4 rfl), List.mem_cons_self⟩, hE.w w4 rfl, hE.w w5 rfl, ⟨w6.1, w6.2.1⟩, (fun sig h => by have h2 := w6.2.2; rw [h] at h2; exact (Option.some.inj h2).symm), hE.w w1 rfl, hE.w w2 rfl⟩ ⟨kP.blind, hpre⟩ rfl hn hsz hst (lv_room hW) hdg ⟨hR.2.2.1, hR.2.2.2⟩) hS (fun q _ h => hFc q h) hFc (fun r u t H1 locs1 ht hvm hw hB hz1 hk1 hS1 => ?_)
  obtain ⟨hB1, hB2⟩ := hB
  rw [ht] at hB1
  obtain ⟨hP1, hD1⟩ := va_join hP hD isC isR hC hRr hn1 hdis hk1 hFc hB1 hB2
  exact kk r u H1 locs1 hw hP1 hD1 hS1
theorem k_xcallVi {SX : Type} {px : String → SX → Prop} {wx : SX → va_W} {S : Type} {post : Int32 → S → Prop} {w : S → va_W} {index n maxL : Nat} {y : MethodName} {bytes : ByteArray} {rm : Room} {b : Nat} {As : List Value} {wc wr : va_W} {Cn : String} {ret : Option FieldType} (L : kLV own index Cn y bytes maxL ret n) (C : kC G p s m c cc nL own A) (hM : kMX l y bytes maxL ret rm G (.ref b :: As) wc H.size (kQi G post w) (kXC G px wx)) (hR : kLR rm R maxL cells slots) (hP : va_P G.1 vwCl ws H) (hD : va_D A ws) (hS : va_S A s.heap H locs) (isC isR : List Nat) (hC : isC.map (fun i => ws[i]?) = wc.map some) (hRr : isR.map (fun i => ws[i]?) = wr.map some) (hn0 : va_nd isC = true) (hn1 : va_nd isR = true) (hdis : ∀ i ∈ isR, i ∉ isC) (q0 ci : Nat) {cq : u_T × Nat} (hq : vwCl[ci]? = some (Cn, cq)) {fs : List Value} (he : wc[q0]? = some (b, .inr (ci, fs))) (hn : As.length = n) (hsz : ls.size = nL) (hst : st0 = As.reverse ++ .ref b :: rest) (hW : (rest.map fun v => v.category).sum ≤ 8) (hdg : decode cc pc = .ok (.invokevirtual index, 3))
    (kx : ∀ (E : String) (ce : Cell) (q9 : Addr) (u : SX) (H1 : Heap) (locs1 : List Loc), px E u → va_P G.1 vwCl (wr ++ wx u) H1 → va_D A (wr ++ wx u) → va_S A s.heap H1 locs1 → H1[q9]? = some ce → ce.vm = .none → s.vm.findClass E = some ce.cls → vx_W p l e R s m args below meth c H1 locs1 (cells + rm.cells) (slots + rm.slots) Q (F0 m pc ls rest) q9)
    (kk : ∀ (r : Int32) (u : S) (H1 : Heap) (locs1 : List Loc), post r u → va_P G.1 vwCl (wr ++ w u) H1 → va_D A (wr ++ w u) → va_S A s.heap H1 locs1 → W p l e R s m args below meth c H1 locs1 (cells + rm.cells) (slots + rm.slots) Q (F0 m (pc + 3) ls (.int r :: rest))) : W p l e R s m args below meth c H locs cells slots Q (F0 m pc ls st0) := by
  obtain ⟨hPc, hFc, hpre⟩ := k_cut C hP hD hS isC hC hn0 (.ref b :: As)
  obtain ⟨hx, hb, hml, hown, hE, hXx, hA⟩ := C
  obtain ⟨w1, w2, w3, w4, w5, w6⟩ := L
  refine vx_calli (a := (.ref b :: As).toArray) (vx_runV (As := As) (rest := rest) (Ts := []) ⟨hx, hb, hml, hown, fun _ h => nomatch h⟩ hM ⟨⟨rfl, rfl, hR.1, hR.2.1, (fun w hw a' U hW => by rw [List.mem_singleton.mp hw]; exact (hE.warm hW).w w4 rfl), List.mem_cons_self, hE.w w4 rfl, hE.w w5 rfl, ⟨w6.2.1, w6.2.2.1⟩, (fun sig h => by have h2 := w6.2.2.2; rw [h] at h2; exact (Option.some.inj h2).symm), hE.w w1 rfl⟩, hE.w w2 rfl, hE.w w3 rfl⟩ ⟨kP.blind, va_recv hE.2.1 hPc hq he, hpre⟩ rfl hn hsz hst (lv_room hW) hdg ⟨hR.2.2.1, hR.2.2.2⟩) hS (fun q _ h => hFc q h) hFc (fun q _ h => hFc q h) (fun E ce q9 u t H1 locs1 ht hvm hw hB hz1 hk1 hS1 hc1 hc2 hc3 => ?_) (fun r u t H1 locs1 ht hvm hw hB hz1 hk1 hS1 => ?_)
  · obtain ⟨hpx, hB1, hB2⟩ := hB
    rw [ht] at hB1
    obtain ⟨hP1, hD1⟩ := va_join hP hD isC isR hC hRr hn1 hdis hk1 hFc hB1 hB2
    exact kx E ce q9 u H1 locs1 hpx hP1 hD1 hS1 hc1 hc2 hc3
  · obtain ⟨hB1, hB2⟩ := hB
    rw [ht] at hB1
    obtain ⟨hP1, hD1⟩ := va_join hP hD isC isR hC hRr hn1 hdis hk1 hFc hB1 hB2
    exact kk r u H1 locs1 hw hP1 hD1 hS1
theorem k_xcallVv {SX : Type} {px : String → SX → Prop} {wx : SX → va_W} {S : Type} {post : S → Prop} {w : S → va_W} {index n maxL : Nat} {y : MethodName} {bytes : ByteArray} {rm : Room} {b : Nat} {As : List Value} {wc wr : va_W} {Cn : String} {ret : Option FieldType} (L : kLV own index Cn y bytes maxL ret n) (C : kC G p s m c cc nL own A) (hM : kMX l y bytes maxL ret rm G (.ref b :: As) wc H.size (kQv G post w) (kXC G px wx)) (hR : kLR rm R maxL cells slots) (hP : va_P G.1 vwCl ws H) (hD : va_D A ws) (hS : va_S A s.heap H locs) (isC isR : List Nat) (hC : isC.map (fun i => ws[i]?) = wc.map some) (hRr : isR.map (fun i => ws[i]?) = wr.map some) (hn0 : va_nd isC = true) (hn1 : va_nd isR = true) (hdis : ∀ i ∈ isR, i ∉ isC) (q0 ci : Nat) {cq : u_T × Nat} (hq : vwCl[ci]? = some (Cn, cq)) {fs : List Value} (he : wc[q0]? = some (b, .inr (ci, fs))) (hn : As.length = n) (hsz : ls.size = nL) (hst : st0 = As.reverse ++ .ref b :: rest) (hW : (rest.map fun v => v.category).sum ≤ 8) (hdg : decode cc pc = .ok (.invokevirtual index, 3))
    (kx : ∀ (E : String) (ce : Cell) (q9 : Addr) (u : SX) (H1 : Heap) (locs1 : List Loc), px E u → va_P G.1 vwCl (wr ++ wx u) H1 → va_D A (wr ++ wx u) → va_S A s.heap H1 locs1 → H1[q9]? = some ce → ce.vm = .none → s.vm.findClass E = some ce.cls → vx_W p l e R s m args below meth c H1 locs1 (cells + rm.cells) (slots + rm.slots) Q (F0 m pc ls rest) q9)
    (kk : ∀ (u : S) (H1 : Heap) (locs1 : List Loc), post u → va_P G.1 vwCl (wr ++ w u) H1 → va_D A (wr ++ w u) → va_S A s.heap H1 locs1 → W p l e R s m args below meth c H1 locs1 (cells + rm.cells) (slots + rm.slots) Q (F0 m (pc + 3) ls rest)) : W p l e R s m args below meth c H locs cells slots Q (F0 m pc ls st0) := by
  obtain ⟨hPc, hFc, hpre⟩ := k_cut C hP hD hS isC hC hn0 (.ref b :: As)
  obtain ⟨hx, hb, hml, hown, hE, hXx, hA⟩ := C
  obtain ⟨w1, w2, w3, w4, w5, w6⟩ := L
  refine vx_callv (a := (.ref b :: As).toArray) (vx_runV (As := As) (rest := rest) (Ts := []) ⟨hx, hb, hml, hown, fun _ h => nomatch h⟩ hM ⟨⟨rfl, rfl, hR.1, hR.2.1, (fun w hw a' U hW => by rw [List.mem_singleton.mp hw]; exact (hE.warm hW).w w4 rfl), List.mem_cons_self, hE.w w4 rfl, hE.w w5 rfl, ⟨w6.2.1, w6.2.2.1⟩, (fun sig h => by have h2 := w6.2.2.2; rw [h] at h2; exact (Option.some.inj h2).symm), hE.w w1 rfl⟩, hE.w w2 rfl, hE.w w3 rfl⟩ ⟨kP.blind, va_recv hE.2.1 hPc hq he, hpre⟩ rfl hn hsz hst (lv_room hW) hdg ⟨hR.2.2.1, hR.2.2.2⟩) hS (fun q _ h => hFc q h) hFc (fun q _ h => hFc q h) (fun E ce q9 u t H1 locs1 ht hvm hw hB hz1 hk1 hS1 hc1 hc2 hc3 => ?_) (fun u t H1 locs1 ht hvm hw hB hz1 hk1 hS1 => ?_)
  · obtain ⟨hpx, hB1, hB2⟩ := hB
    rw [ht] at hB1
    obtain ⟨hP1, hD1⟩ := va_join hP hD isC isR hC hRr hn1 hdis hk1 hFc hB1 hB2
    exact kx E ce q9 u H1 locs1 hpx hP1 hD1 hS1 hc1 hc2 hc3
  · obtain ⟨hB1, hB2⟩ := hB
    rw [ht] at hB1
    obtain ⟨hP1, hD1⟩ := va_join hP hD isC isR hC hRr hn1 hdis hk1 hFc hB1 hB2
    exact kk u H1 locs1 hw hP1 hD1 hS1
theorem k_xcallVl {SX : Type} {px : String → SX → Prop} {wx : SX → va_W} {S : Type} {post : Int64 → S → Prop} {w : S → va_W} {index n maxL : Nat} {y : MethodName} {bytes : ByteArray} {rm : Room} {b : Nat} {As : List Value} {wc wr : va_W} {Cn : String} {ret : Option FieldType} (L : kLV own index Cn y bytes maxL ret n) (C : kC G p s m c cc nL own A) (hM : kMX l y bytes maxL ret rm G (.ref b :: As) wc H.size (kQl G post w) (kXC G px wx)) (hR : kLR rm R maxL cells slots) (hP : va_P G.1 vwCl ws H) (hD : va_D A ws) (hS : va_S A s.heap H locs) (isC isR : List Nat) (hC : isC.map (fun i => ws[i]?) = wc.map some) (hRr : isR.map (fun i => ws[i]?) = wr.map some) (hn0 : va_nd isC = true) (hn1 : va_nd isR = true) (hdis : ∀ i ∈ isR, i ∉ isC) (q0 ci : Nat) {cq : u_T × Nat} (hq : vwCl[ci]? = some (Cn, cq)) {fs : List Value} (he : wc[q0]? = some (b, .inr (ci, fs))) (hn : As.length = n) (hsz : ls.size = nL) (hst : st0 = As.reverse ++ .ref b :: rest) (hW : (rest.map fun v => v.category).sum ≤ 8) (hdg : decode cc pc = .ok (.invokevirtual index, 3))
    (kx : ∀ (E : String) (ce : Cell) (q9 : Addr) (u : SX) (H1 : Heap) (locs1 : List Loc), px E u → va_P G.1 vwCl (wr ++ wx u) H1 → va_D A (wr ++ wx u) → va_S A s.heap H1 locs1 → H1[q9]? = some ce → ce.vm = .none → s.vm.findClass E = some ce.cls → vx_W p l e R s m args below meth c H1 locs1 (cells + rm.cells) (slots + rm.slots) Q (F0 m pc ls rest) q9)
    (kk : ∀ (r : Int64) (u : S) (H1 : Heap) (locs1 : List Loc), post r u → va_P G.1 vwCl (wr ++ w u) H1 → va_D A (wr ++ w u) → va_S A s.heap H1 locs1 → W p l e R s m args below meth c H1 locs1 (cells + rm.cells) (slots + rm.slots) Q (F0 m (pc + 3) ls (.long r :: rest))) : W p l e R s m args below meth c H locs cells slots Q (F0 m pc ls st0) := by
  obtain ⟨hPc, hFc, hpre⟩ := k_cut C hP hD hS isC hC hn0 (.ref b :: As)
  obtain ⟨hx, hb, hml, hown, hE, hXx, hA⟩ := C
  obtain ⟨w1, w2, w3, w4, w5, w6⟩ := L
  refine vx_calll (a := (.ref b :: As).toArray) (vx_runV (As := As) (rest := rest) (Ts := []) ⟨hx, hb, hml, hown, fun _ h => nomatch h⟩ hM ⟨⟨rfl, rfl, hR.1, hR.2.1, (fun w hw a' U hW => by rw [List.mem_singleton.mp hw]; exact (hE.warm hW).w w4 rfl), List.mem_cons_self, hE.w w4 rfl, hE.w w5 rfl, ⟨w6.2.1, w6.2.2.1⟩, (fun sig h => by have h2 := w6.2.2.2; rw [h] at h2; exact (Option.some.inj h2).symm), hE.w w1 rfl⟩, hE.w w2 rfl, hE.w w3 rfl⟩ ⟨kP.blind, va_recv hE.2.1 hPc hq he, hpre⟩ rfl hn hsz hst (lv_room hW) hdg ⟨hR.2.2.1, hR.2.2.2⟩) hS (fun q _ h => hFc q h) hFc (fun q _ h => hFc q h) (fun E ce q9 u t H1 locs1 ht hvm hw hB hz1 hk1 hS1 hc1 hc2 hc3 => ?_) (fun r u t H1 locs1 ht hvm hw hB hz1 hk1 hS1 => ?_)
  · obtain ⟨hpx, hB1, hB2⟩ := hB
    rw [ht] at hB1
    obtain ⟨hP1, hD1⟩ := va_join hP hD isC isR hC hRr hn1 hdis hk1 hFc hB1 hB2
    exact kx E ce q9 u H1 locs1 hpx hP1 hD1 hS1 hc1 hc2 hc3
  · obtain ⟨hB1, hB2⟩ := hB
    rw [ht] at hB1
    obtain ⟨hP1, hD1⟩ := va_join hP hD isC isR hC hRr hn1 hdis hk1 hFc hB1 hB2
    exact kk r u H1 locs1 hw hP1 hD1 hS1
theorem k_xcallSi {SX : Type} {px : String → SX → Prop} {wx : SX → va_W} {S : Type} {post : Int32 → S → Prop} {w : S → va_W} {index n maxL : Nat} {y : MethodName} {bytes : ByteArray} {rm : Room} {As : List Value} {wc wr : va_W} {ret : Option FieldType} (L : kLS own index y bytes maxL ret n) (C : kC G p s m c cc nL own A) (hM : kMX l y bytes maxL ret rm G As wc H.size (kQi G post w) (kXC G px wx)) (hR : kLR rm R maxL cells slots) (hP : va_P G.1 vwCl ws H) (hD : va_D A ws) (hS : va_S A s.heap H locs) (isC isR : List Nat) (hC : isC.map (fun i => ws[i]?) = wc.map some) (hRr : isR.map (fun i => ws[i]?) = wr.map some) (hn0 : va_nd isC = true) (hn1 : va_nd isR = true) (hdis : ∀ i ∈ isR, i ∉ isC) (hn : As.length = n) (hsz : ls.size = nL) (hst : st0 = As.reverse ++ rest) (hW : (rest.map fun v => v.category).sum ≤ 8) (hdg : decode cc pc = .ok (.invokestatic index, 3))
    (kx : ∀ (E : String) (ce : Cell) (q9 : Addr) (u : SX) (H1 : Heap) (locs1 : List Loc), px E u → va_P G.1 vwCl (wr ++ wx u) H1 → va_D A (wr ++ wx u) → va_S A s.heap H1 locs1 → H1[q9]? = some ce → ce.vm = .none → s.vm.findClass E = some ce.cls → vx_W p l e R s m args below meth c H1 locs1 (cells + rm.cells) (slots + rm.slots) Q (F0 m pc ls rest) q9)
    (kk : ∀ (r : Int32) (u : S) (H1 : Heap) (locs1 : List Loc), post r u → va_P G.1 vwCl (wr ++ w u) H1 → va_D A (wr ++ w u) → va_S A s.heap H1 locs1 → W p l e R s m args below meth c H1 locs1 (cells + rm.cells) (slots + rm.slots) Q (F0 m (pc + 3) ls (.int r :: rest))) : W p l e R s m args below meth c H locs cells slots Q (F0 m pc ls st0) := by
  obtain ⟨hPc, hFc, hpre⟩ := k_cut C hP hD hS isC hC hn0 As
  obtain ⟨hx, hb, hml, hown, hE, hXx, hA⟩ := C
  obtain ⟨w1, w2, w4, w5, w6⟩ := L
  refine vx_calli (a := As.toArray) (vx_runS (As := As) (rest := rest) (Ts := []) ⟨hx, hb, hml, hown, fun _ h => nomatch h⟩ hM ⟨⟨rfl, rfl, hR.1, hR.2.1, (fun w hw a' U hW => by rw [List.mem_singleton.mp hw]; exact (hE.warm hW).w w4 rfl), List.mem_cons_self, hE.w w4 rfl, hE.w w5 rfl, ⟨w6.1, w6.2.1⟩, (fun sig h => by have h2 := w6.2.2; rw [h] at h2; exact (Option.some.inj h2).symm), hE.w w1 rfl⟩, hE.w w2 rfl⟩ ⟨kP.blind, hpre⟩ rfl hn hsz hst (lv_room hW) hdg ⟨hR.2.2.1, hR.2.2.2⟩) hS (fun q _ h => hFc q h) hFc (fun q _ h => hFc q h) (fun E ce q9 u t H1 locs1 ht hvm hw hB hz1 hk1 hS1 hc1 hc2 hc3 => ?_) (fun r u t H1 locs1 ht hvm hw hB hz1 hk1 hS1 => ?_)
  · obtain ⟨hpx, hB1, hB2⟩ := hB
    rw [ht] at hB1
    obtain ⟨hP1, hD1⟩ := va_join hP hD isC isR hC hRr hn1 hdis hk1 hFc hB1 hB2
    exact kx E ce q9 u H1 locs1 hpx hP1 hD1 hS1 hc1 hc2 hc3
  · obtain ⟨hB1, hB2⟩ := hB
    rw [ht] at hB1
    obtain ⟨hP1, hD1⟩ := va_join hP hD isC isR hC hRr hn1 hdis hk1 hFc hB1 hB2
    exact kk r u H1 locs1 hw hP1 hD1 hS1
theorem k_xcallSv {SX : Type} {px : String → SX → Prop} {wx : SX → va_W} {S : Type} {post : S → Prop} {w : S → va_W} {index n maxL : Nat} {y : MethodName} {bytes : ByteArray} {rm : Room} {As : List Value} {wc wr : va_W} {ret : Option FieldType} (L : kLS own index y bytes maxL ret n) (C : kC G p s m c cc nL own A) (hM : kMX l y bytes maxL ret rm G As wc H.size (kQv G post w) (kXC G px wx)) (hR : kLR rm R maxL cells slots) (hP : va_P G.1 vwCl ws H) (hD : va_D A ws) (hS : va_S A s.heap H locs) (isC isR : List Nat) (hC : isC.map (fun i => ws[i]?) = wc.map some) (hRr : isR.map (fun i => ws[i]?) = wr.map some) (hn0 : va_nd isC = true) (hn1 : va_nd isR = true) (hdis : ∀ i ∈ isR, i ∉ isC) (hn : As.length = n) (hsz : ls.size = nL) (hst : st0 = As.reverse ++ rest) (hW : (rest.map fun v => v.category).sum ≤ 8) (hdg : decode cc pc = .ok (.invokestatic index, 3))
    (kx : ∀ (E : String) (ce : Cell) (q9 : Addr) (u : SX) (H1 : Heap) (locs1 : List Loc), px E u → va_P G.1 vwCl (wr ++ wx u) H1 → va_D A (wr ++ wx u) → va_S A s.heap H1 locs1 → H1[q9]? = some ce → ce.vm = .none → s.vm.findClass E = some ce.cls → vx_W p l e R s m args below meth c H1 locs1 (cells + rm.cells) (slots + rm.slots) Q (F0 m pc ls rest) q9)
    (kk : ∀ (u : S) (H1 : Heap) (locs1 : List Loc), post u → va_P G.1 vwCl (wr ++ w u) H1 → va_D A (wr ++ w u) → va_S A s.heap H1 locs1 → W p l e R s m args below meth c H1 locs1 (cells + rm.cells) (slots + rm.slots) Q (F0 m (pc + 3) ls rest)) : W p l e R s m args below meth c H locs cells slots Q (F0 m pc ls st0) := by
  obtain ⟨hPc, hFc, hpre⟩ := k_cut C hP hD hS isC hC hn0 As
  obtain ⟨hx, hb, hml, hown, hE, hXx, hA⟩ := C
  obtain ⟨w1, w2, w4, w5, w6⟩ := L
  refine vx_callv (a := As.toArray) (vx_runS (As := As) (rest := rest) (Ts := []) ⟨hx, hb, hml, hown, fun _ h => nomatch h⟩ hM ⟨⟨rfl, rfl, hR.1, hR.2.1, (fun w hw a' U hW => by rw [List.mem_singleton.mp hw]; exact (hE.warm hW).w w4 rfl), List.mem_cons_self, hE.w w4 rfl, hE.w w5 rfl, ⟨w6.1, w6.2.1⟩, (fun sig h => by have h2 := w6.2.2; rw [h] at h2; exact (Option.some.inj h2).symm), hE.w w1 rfl⟩, hE.w w2 rfl⟩ ⟨kP.blind, hpre⟩ rfl hn hsz hst (lv_room hW) hdg ⟨hR.2.2.1, hR.2.2.2⟩) hS (fun q _ h => hFc q h) hFc (fun q _ h => hFc q h) (fun E ce q9 u t H1 locs1 ht hvm hw hB hz1 hk1 hS1 hc1 hc2 hc3 => ?_) (fun u t H1 locs1 ht hvm hw hB hz1 hk1 hS1 => ?_)
  · obtain ⟨hpx, hB1, hB2⟩ := hB
    rw [ht] at hB1
    obtain ⟨hP1, hD1⟩ := va_join hP hD isC isR hC hRr hn1 hdis hk1 hFc hB1 hB2
    exact kx E ce q9 u H1 locs1 hpx hP1 hD1 hS1 hc1 hc2 hc3
  · obtain ⟨hB1, hB2⟩ := hB
    rw [ht] at hB1
    obtain ⟨hP1, hD1⟩ := va_join hP hD isC isR hC hRr hn1 hdis hk1 hFc hB1 hB2
    exact kk u H1 locs1 hw hP1 hD1 hS1
theorem k_xcallSl {SX : Type} {px : String → SX → Prop} {wx : SX → va_W} {S : Type} {post : Int64 → S → Prop} {w : S → va_W} {index n maxL : Nat} {y : MethodName} {bytes : ByteArray} {rm : Room} {As : List Value} {wc wr : va_W} {ret : Option FieldType} (L : kLS own index y bytes maxL ret n) (C : kC G p s m c cc nL own A) (hM : kMX l y bytes maxL ret rm G As wc H.size (kQl G post w) (kXC G px wx)) (hR : kLR rm R maxL cells slots) (hP : va_P G.1 vwCl ws H) (hD : va_D A ws) (hS : va_S A s.heap H locs) (isC isR : List Nat) (hC : isC.map (fun i => ws[i]?) = wc.map some) (hRr : isR.map (fun i => ws[i]?) = wr.map some) (hn0 : va_nd isC = true) (hn1 : va_nd isR = true) (hdis : ∀ i ∈ isR, i ∉ isC) (hn : As.length = n) (hsz : ls.size = nL) (hst : st0 = As.reverse ++ rest) (hW : (rest.map fun v => v.category).sum ≤ 8) (hdg : decode cc pc = .ok (.invokestatic index, 3))
    (kx : ∀ (E : String) (ce : Cell) (q9 : Addr) (u : SX) (H1 : Heap) (locs1 : List Loc), px E u → va_P G.1 vwCl (wr ++ wx u) H1 → va_D A (wr ++ wx u) → va_S A s.heap H1 locs1 → H1[q9]? = some ce → ce.vm = .none → s.vm.findClass E = some ce.cls → vx_W p l e R s m args below meth c H1 locs1 (cells + rm.cells) (slots + rm.slots) Q (F0 m pc ls rest) q9)
    (kk : ∀ (r : Int64) (u : S) (H1 : Heap) (locs1 : List Loc), post r u → va_P G.1 vwCl (wr ++ w u) H1 → va_D A (wr ++ w u) → va_S A s.heap H1 locs1 → W p l e R s m args below meth c H1 locs1 (cells + rm.cells) (slots + rm.slots) Q (F0 m (pc + 3) ls (.long r :: rest))) : W p l e R s m args below meth c H locs cells slots Q (F0 m pc ls st0) := by
  obtain ⟨hPc, hFc, hpre⟩ := k_cut C hP hD hS isC hC hn0 As
  obtain ⟨hx, hb, hml, hown, hE, hXx, hA⟩ := C
  obtain ⟨w1, w2, w4, w5, w6⟩ := L
  refine vx_calll (a := As.toArray) (vx_runS (As := As) (rest := rest) (Ts := []) ⟨hx, hb, hml, hown, fun _ h => nomatch h⟩ hM ⟨⟨rfl, rfl, hR.1, hR.2.1, (fun w hw a' U hW => by rw [List.mem_singleton.mp hw]; exact (hE.warm hW).w w4 rfl), List.mem_cons_self, hE.w w4 rfl, hE.w w5 rfl, ⟨w6.1, w6.2.1⟩, (fun sig h => by have h2 := w6.2.2; rw [h] at h2; exact (Option.some.inj h2).symm), hE.w w1 rfl⟩, hE.w w2 rfl⟩ ⟨kP.blind, hpre⟩ rfl hn hsz hst (lv_room hW) hdg ⟨hR.2.2.1, hR.2.2.2⟩) hS (fun q _ h => hFc q h) hFc (fun q _ h => hFc q h) (fun E ce q9 u t H1 locs1 ht hvm hw hB hz1 hk1 hS1 hc1 hc2 hc3 => ?_) (fun r u t H1 locs1 ht hvm hw hB hz1 hk1 hS1 => ?_)
  · obtain ⟨hpx, hB1, hB2⟩ := hB
    rw [ht] at hB1
    obtain ⟨hP1, hD1⟩ := va_join hP hD isC isR hC hRr hn1 hdis hk1 hFc hB1 hB2
    exact kx E ce q9 u H1 locs1 hpx hP1 hD1 hS1 hc1 hc2 hc3
  · obtain ⟨hB1, hB2⟩ := hB
    rw [ht] at hB1
    obtain ⟨hP1, hD1⟩ := va_join hP hD isC isR hC hRr hn1 hdis hk1 hFc hB1 hB2
    exact kk r u H1 locs1 hw hP1 hD1 hS1
theorem k_iret {S : Type} {post : Int32 → S → Prop} {w : S → va_W} {mc ms : Nat} {r : Int32} (C : kC G p s m c cc nL own A) (hr : meth.sig.returnType = some .int) (hlk : meth.locks = false) (hP : va_P G.1 vwCl ws H) (hD : va_D A ws) (hS : va_S A s.heap H locs) (u : S) (hpost : post r u) (isO : List Nat) (hO : isO.map (fun i => ws[i]?) = (w u).map some) (hnO : va_nd isO = true) (hc : cells ≤ mc) (hs : slots ≤ ms) (hdg : decode cc pc = .ok (.ireturn, 1)) :
    W p l e R s m args below meth c H locs cells slots (MQ below (kQi G post w A) args s mc ms A) (F0 m pc ls [.int r]) := by
  refine W.widen hc hs ?_
  exact W.iret (v := r) C.1 C.2.1 hr (fun t ht hW => ⟨⟨r, u, rfl, hpost, by rw [ht]; exact hP.sub isO (k_fm hO), hD.sub isO hnO hO⟩, hS.F ht⟩) hS.2.2 hdg (hlocks := hlk)
theorem k_zret {S : Type} {post : Int32 → S → Prop} {w : S → va_W} {mc ms : Nat} {r : Int32} (C : kC G p s m c cc nL own A) (hr : meth.sig.returnType = some .boolean) (hlk : meth.locks = false) (hnz : narrow .boolean (.int r) = .int r) (hP : va_P G.1 vwCl ws H) (hD : va_D A ws) (hS : va_S A s.heap H locs) (u : S) (hpost : post r u) (isO : List Nat) (hO : isO.map (fun i => ws[i]?) = (w u).map some) (hnO : va_nd isO = true) (hc : cells ≤ mc) (hs : slots ≤ ms) (hdg : decode cc pc = .ok (.ireturn, 1)) :
    W p l e R s m args below meth c H locs cells slots (MQ below (kQi G post w A) args s mc ms A) (F0 m pc ls [.int r]) := by
  refine W.widen hc hs ?_
  exact W.zret (v := r) C.1 C.2.1 hr hnz (fun t ht hW => ⟨⟨r, u, rfl, hpost, by rw [ht]; exact hP.sub isO (k_fm hO), hD.sub isO hnO hO⟩, hS.F ht⟩) hS.2.2 hdg (hlocks := hlk)
theorem k_lret {S : Type} {post : Int64 → S → Prop} {w : S → va_W} {mc ms : Nat} {r : Int64} (C : kC G p s m c cc nL own A) (hr : meth.sig.returnType = some .long) (hlk : meth.locks = false) (hP : va_P G.1 vwCl ws H) (hD : va_D A ws) (hS : va_S A s.heap H locs) (u : S) (hpost : post r u) (isO : List Nat) (hO : isO.map (fun i => ws[i]?) = (w u).map some) (hnO : va_nd isO = true) (hc : cells ≤ mc) (hs : slots ≤ ms) (hdg : decode cc pc = .ok (.lreturn, 1)) :
    W p l e R s m args below meth c H locs cells slots (MQ below (kQl G post w A) args s mc ms A) (F0 m pc ls [.long r]) := by
  refine W.widen hc hs ?_
  exact W.lret (v := r) C.1 C.2.1 hr (fun t ht hW => ⟨⟨r, u, rfl, hpost, by rw [ht]; exact hP.sub isO (k_fm hO), hD.sub isO hnO hO⟩, hS.F ht⟩) hS.2.2 hdg (hlocks := hlk)
theorem k_vret {S : Type} {post : S → Prop} {w : S → va_W} {mc ms : Nat} (C : kC G p s m c cc nL own A) (hr : meth.sig.returnType = none) (hlk : meth.locks = false) (hP : va_P G.1 vwCl ws H) (hD : va_D A ws) (hS : va_S A s.heap H locs) (u : S) (hpost : post u) (isO : List Nat) (hO : isO.map (fun i => ws[i]?) = (w u).map some) (hnO : va_nd isO = true) (hc : cells ≤ mc) (hs : slots ≤ ms) (hdg : decode cc pc = .ok (.return_, 1)) :
    W p l e R s m args below meth c H locs cells slots (MQ below (kQv G post w A) args s mc ms A) (F0 m pc ls []) := by
  refine W.widen hc hs ?_
  exact W.vret C.1 C.2.1 hr (fun t ht hW => ⟨⟨u, rfl, hpost, by rw [ht]; exact hP.sub isO (k_fm hO), hD.sub isO hnO hO⟩, hS.F ht⟩) hS.2.2 hdg (hlocks := hlk)
/-- an exception that leaves this method -/
theorem k_xout {Qc : Array Value → State → Outcome → State → Prop} {S : Type} {px : String → S → Prop} {w : S → va_W} {mc ms : Nat} {E : String} {ce : Cell} {q9 : Addr} (hno : ∀ x ∈ c.exceptionTable.toList, False) (hlk : meth.locks = false) (hP : va_P G.1 vwCl ws H) (hD : va_D A ws) (hS : va_S A s.heap H locs) (hc1 : H[q9]? = some ce) (hc2 : ce.vm = .none) (hc3 : s.vm.findClass E = some ce.cls) (u : S) (hpx : px E u) (isO : List Nat) (hO : isO.map (fun i => ws[i]?) = (w u).map some) (hnO : va_nd isO = true) (hc : cells ≤ mc) (hs : slots ≤ ms) :
    vx_W p l e R s m args below meth c H locs cells slots (vx_MQ below Qc (kXC G px w A) args s mc ms A) (F0 m pc ls rest) q9 :=
  vx_out (fun x hx => (hno x hx).elim) hlk hc1 hc2 hc3 (fun t ht hvm => ⟨u, trivial, ⟨hpx, by rw [ht]; exact hP.sub isO (k_fm hO), hD.sub isO hnO hO⟩, hS.F ht⟩) hS.2.2 hc hs
/-- throw new E() -/
theorem k_throw {Qc : Array Value → State → Outcome → State → Prop} {S : Type} {px : String → S → Prop} {w : S → va_W} {mc ms ik ic : Nat} {cls : String} {names : List String} (hl : l.stackTraces = false) (hfit : Bundle.fit cls = true ∧ ∀ n ∈ names, Bundle.fit n = true) (hm : ∀ w ∈ Cond.classLink own ik cls :: Cond.initialized cls :: vx_at0 own ic cls names, w ∈ lw_tbl ∧ kOk w = true ∧ vx_ot w = true)
    (hno : ∀ x ∈ c.exceptionTable.toList, False) (hlk : meth.locks = false) (C : kC G p s m c cc nL own A) (hsz : ls.size = nL) (hP : va_P G.1 vwCl ws H) (hD : va_D A ws) (hS : va_S A s.heap H locs)
    (d0 : decode cc pc = .ok (.new ik, 3)) (d3 : decode cc (pc + 3) = .ok (.dup, 1)) (d4 : decode cc (pc + 4) = .ok (.invokespecial ic, 3)) (d7 : decode cc (pc + 7) = .ok (.athrow, 1))
    (hf : names.length + 3 < R.frames) (hl2 : (rest.map fun v => v.category).sum + (13 * (names.length + 1) + 42) ≤ R.locals) (hR : cells + 1 ≤ R.cells ∧ slots + 6 ≤ R.slots) (u : S) (hpx : px cls u) (isO : List Nat) (hO : isO.map (fun i => ws[i]?) = (w u).map some) (hnO : va_nd isO = true) (hc : cells + 1 ≤ mc) (hs : slots + 6 ≤ ms) :
    W p l e R s m args below meth c H locs cells slots (vx_MQ below Qc (kXC G px w A) args s mc ms A) (F0 m pc ls rest) := by
  obtain ⟨hx, hb, hml, hown, hE, hXx, hA⟩ := C
  have ok : ∀ w ∈ Cond.classLink own ik cls :: Cond.initialized cls :: vx_at0 own ic cls names, w.before args s = true := fun w h => hE.w (hm w h).1 (hm w h).2.1
  refine vx_throw0 hx hb hl hown hfit.1 hfit.2 (ok _ List.mem_cons_self) (ok _ (List.mem_cons_of_mem _ List.mem_cons_self)) (fun w h => ok w (List.mem_cons_of_mem _ (List.mem_cons_of_mem _ h))) (fun w h => (hm w h).2.2) hXx.1 hXx.2 hS (hsz.trans hml.symm) d0 d3 d4 d7 (fun x hx => (hno x hx).elim) hf hl2 hR.1 hR.2 hlk ?_ hS.2.2 hc hs
  intro t hvm hz hq
  have hk : ∀ (k : Nat) (x : Nat × va_E), ws[k]? = some x → t.heap[x.1]? = H[x.1]? := fun k x hx => hq x.1 ((hP k x hx).lt)
  exact ⟨u, trivial, ⟨hpx, (hP.kept hk).sub isO (k_fm hO), hD.sub isO hnO hO⟩, Nat.le_trans hS.1 hz, fun q h1 h2 => (hq q (Nat.lt_of_lt_of_le h1 hS.1)).trans (hS.2.1 q h1 h2)⟩
theorem k_eqi {x y : Int32} (h : x = y) (k : W p l e R s m args below meth c H locs cells slots Q (F0 m pc ls (.int y :: rest))) : W p l e R s m args below meth c H locs cells slots Q (F0 m pc ls (.int x :: rest)) := by rw [h]; exact k
theorem k_eql {x y : Int64} (h : x = y) (k : W p l e R s m args below meth c H locs cells slots Q (F0 m pc ls (.long y :: rest))) : W p l e R s m args below meth c H locs cells slots Q (F0 m pc ls (.long x :: rest)) := by rw [h]; exact k
theorem k_eqv {v v' : Value} (h : v = v') (k : W p l e R s m args below meth c H locs cells slots Q (F0 m pc ls (v' :: rest))) : W p l e R s m args below meth c H locs cells slots Q (F0 m pc ls (v :: rest)) := by rw [h]; exact k
theorem k_in {i : Int32} {n : Nat} (h : (decide (i < 0) || Nat.ble n i.toNatClampNeg) = false) : vp_in i n := by
  unfold vp_in
  rw [Bool.or_eq_false_iff, decide_eq_false_iff_not] at h
  rintro (h1 | h1)
  · exact h.1 h1
  · have := Nat.ble_eq.mpr h1
    rw [h.2] at this
    cases this
theorem kR {rm R : Room} {maxL cells slots : Nat} (h : ((rm.frames + 1).ble R.frames && ((8 + (maxL + 11) + rm.locals).ble R.locals && ((cells + rm.cells).ble R.cells && (slots + rm.slots).ble R.slots))) = true) : kLR rm R maxL cells slots := by
  simp only [Bool.and_eq_true, Nat.ble_eq] at h
  exact ⟨h.1, h.2.1, h.2.2.1, h.2.2.2⟩
/-- Math.min and Math.max -/
def kLM (own : String) (index : Nat) (y : MethodName) (cd : ByteArray) : Prop := Cond.methodLink own index y ∈ lw_tbl ∧ Cond.static y ∈ lw_tbl ∧ Cond.initialized "java/lang/Math" ∈ lw_tbl ∧ Cond.code y cd 2 (some .int) ∈ lw_tbl
theorem k_min {index : Nat} {x y : Int32} (L : kLM own index Lib.Math.min.name Lib.Math.min.code) (C : kC G p s m c cc nL own A) (hsz : ls.size = nL) (hf : 1 ≤ R.frames) (hl : (rest.map fun v => v.category).sum + 13 ≤ R.locals) (hc : cells ≤ R.cells) (hs : slots ≤ R.slots) (hdg : decode cc pc = .ok (.invokestatic index, 3)) (kk : W p l e R s m args below meth c H locs cells slots Q (F0 m (pc + 3) ls (.int (if y < x then y else x) :: rest))) : W p l e R s m args below meth c H locs cells slots Q (F0 m pc ls (.int y :: .int x :: rest)) :=
  va_mmin C.1 C.2.1 (C.2.2.1.trans hsz.symm) C.2.2.2.1 (C.2.2.2.2.1.w L.1 rfl) (C.2.2.2.2.1.w L.2.1 rfl) (C.2.2.2.2.1.w L.2.2.1 rfl) (C.2.2.2.2.1.w L.2.2.2 rfl) hf hl hc hs hdg kk
theorem k_max {index : Nat} {x y : Int32} (L : kLM own index Lib.Math.max.name Lib.Math.max.code) (C : kC G p s m c cc nL own A) (hsz : ls.size = nL) (hf : 1 ≤ R.frames) (hl : (rest.map fun v => v.category).sum + 13 ≤ R.locals) (hc : cells ≤ R.cells) (hs : slots ≤ R.slots) (hdg : decode cc pc = .ok (.invokestatic index, 3)) (kk : W p l e R s m args below meth c H locs cells slots Q (F0 m (pc + 3) ls (.int (if x < y then y else x) :: rest))) : W p l e R s m args below meth c H locs cells slots Q (F0 m pc ls (.int y :: .int x :: rest)) :=
  va_mmax C.1 C.2.1 (C.2.2.1.trans hsz.symm) C.2.2.2.1 (C.2.2.2.2.1.w L.1 rfl) (C.2.2.2.2.1.w L.2.1 rfl) (C.2.2.2.2.1.w L.2.2.1 rfl) (C.2.2.2.2.1.w L.2.2.2 rfl) hf hl hc hs hdg kk
/-- System.arraycopy of ints -/
def kLC (own : String) (index : Nat) : Prop := Cond.methodLink own index arraycopyName ∈ lw_tbl ∧ Cond.native arraycopyName ∈ lw_tbl ∧ Cond.static arraycopyName ∈ lw_tbl ∧ Cond.initialized "java/lang/System" ∈ lw_tbl
theorem k_copy {index a0 a n0 n1 : Nat} {f g : Nat → Int32} {sp dp n : Int32} (L : kLC own index) (C : kC G p s m c cc nL own A) (hsz : ls.size = nL) (hP : va_P G.1 vwCl ws H) (hD : va_D A ws) (hS : va_S A s.heap H locs) (q0 q1 : Nat) (ha0 : ws[q0]? = some (a0, .inl (G.2.1, n0, .inl f))) (ha1 : ws[q1]? = some (a, .inl (G.2.1, n1, .inl g))) (h1 : ¬ sp < 0) (h2 : ¬ dp < 0) (h3 : ¬ n < 0) (h4 : sp.toNatClampNeg + n.toNatClampNeg ≤ n0) (h5 : dp.toNatClampNeg + n.toNatClampNeg ≤ n1) (hf : 1 ≤ R.frames) (hl : (rest.map fun v => v.category).sum + (nativeFrameWords "java/lang/System" "arraycopy" 5 + 11) ≤ R.locals) (hdg : decode cc pc = .ok (.invokestatic index, 3))
    (kk : ∀ (H1 : Heap) (locs1 : List Loc), va_P G.1 vwCl (ws.set q1 (a, .inl (G.2.1, n1, .inl (va_cpy f g sp.toNatClampNeg dp.toNatClampNeg n.toNatClampNeg)))) H1 → va_D A (ws.set q1 (a, .inl (G.2.1, n1, .inl (va_cpy f g sp.toNatClampNeg dp.toNatClampNeg n.toNatClampNeg)))) → va_S A s.heap H1 locs1 → W p l e R s m args below meth c H1 locs1 cells slots Q (F0 m (pc + 3) ls rest)) : W p l e R s m args below meth c H locs cells slots Q (F0 m pc ls (.int n :: .int dp :: .ref a :: .int sp :: .ref a0 :: rest)) :=
  va_copyi C.1 C.2.1 (C.2.2.1.trans hsz.symm) C.2.2.2.1 (C.2.2.2.2.1.w L.1 rfl) (C.2.2.2.2.1.w L.2.1 rfl) (C.2.2.2.2.1.w L.2.2.1 rfl) (C.2.2.2.2.1.w L.2.2.2 rfl) C.2.2.2.2.1.2.1 hP hD hS q0 q1 0 0 ha0 ha1 rfl rfl rfl h1 h2 h3 h4 h5 (fun _ _ => rfl) hf hl hdg kk
/-- a store of a Lesson into the array -/
theorem k_aast {a n v ci : Nat} {f : Nat → Option Nat} {fs : List Value} {i : Int32} (C : kC G p s m c cc nL own A) (hP : va_P G.1 vwCl ws H) (hD : va_D A ws) (hS : va_S A s.heap H locs) (q0 qk : Nat) (ha : ws[q0]? = some (a, .inl (G.2.2.2.1, n, .inr (.inr (.inr (.inr f)))))) (hv : ws[qk]? = some (v, .inr (5, fs))) (hin : vp_in i n) (hdg : decode cc pc = .ok (.aastore, 1))
    (kk : ∀ (H1 : Heap) (locs1 : List Loc), va_P G.1 vwCl (ws.set q0 (a, .inl (G.2.2.2.1, n, .inr (.inr (.inr (.inr (va_up f i.toNatClampNeg (some v)))))))) H1 → va_D A (ws.set q0 (a, .inl (G.2.2.2.1, n, .inr (.inr (.inr (.inr (va_up f i.toNatClampNeg (some v)))))))) → va_S A s.heap H1 locs1 → W p l e R s m args below meth c H1 locs1 cells slots Q (F0 m (pc + 1) ls rest)) : W p l e R s m args below meth c H locs cells slots Q (F0 m pc ls (.ref v :: .int i :: .ref a :: rest)) :=
  va_astq C.1 C.2.1 C.2.2.2.2.1.2.1 hP hD hS q0 2 qk 5 ha rfl hv rfl hin hdg kk
/-- caught by the first row, by the second -/
theorem k_catch1 {E name : String} {ce : Cell} {q9 : Addr} {hh : List (Nat × Nat × Nat × Nat)} {a b h ct : Nat} (C : kC G p s m c cc nL own A) (ht : c.exceptionTable.toList = tableOf ((a, b, h, ct) :: hh)) (hcv : covers ⟨a, b, h, ct⟩ pc = true) (h0 : ct ≠ 0) (hm : Cond.classLink own ct name ∈ lw_tbl) (hcast : Cond.castable E name ∈ lw_tbl) (hc1 : H[q9]? = some ce) (hc2 : ce.vm = .none) (hc3 : s.vm.findClass E = some ce.cls) (kk : W p l e R s m args below meth c H locs cells slots Q (F0 m h ls [.ref q9])) : vx_W p l e R s m args below meth c H locs cells slots Q (F0 m pc ls rest) q9 :=
  vx_catch C.2.2.2.1 [] ⟨a, b, h, ct⟩ (tableOf hh) ht (fun z hz => nomatch hz) hcv h0 (C.2.2.2.2.1.w hm rfl) (C.2.2.2.2.1.w hcast rfl) hc1 hc2 hc3 kk
theorem k_catch2 {ce : Cell} {q9 : Addr} {hh : List (Nat × Nat × Nat × Nat)} {a1 b1 h1 ct1 a b h ct : Nat} (C : kC G p s m c cc nL own A) (ht : c.exceptionTable.toList = tableOf ((a1, b1, h1, ct1) :: (a, b, h, ct) :: hh)) (h01 : ct1 ≠ 0) (hm1 : Cond.classLink own ct1 "java/util/NoSuchElementException" ∈ lw_tbl) (hcv : covers ⟨a, b, h, ct⟩ pc = true) (h0 : ct ≠ 0) (hm : Cond.classLink own ct "java/lang/IllegalArgumentException" ∈ lw_tbl) (hcast : Cond.castable "java/lang/IllegalArgumentException" "java/lang/IllegalArgumentException" ∈ lw_tbl) (hc1 : H[q9]? = some ce) (hc2 : ce.vm = .none) (hc3 : s.vm.findClass "java/lang/IllegalArgumentException" = some ce.cls) (kk : W p l e R s m args below meth c H locs cells slots Q (F0 m h ls [.ref q9])) : vx_W p l e R s m args below meth c H locs cells slots Q (F0 m pc ls rest) q9 :=
  vx_catch C.2.2.2.1 [⟨a1, b1, h1, ct1⟩] ⟨a, b, h, ct⟩ (tableOf hh) ht (fun z hz => by rw [List.mem_singleton.mp hz]; exact Or.inr ⟨h01, _, C.2.2.2.2.1.w hm1 rfl, C.2.2.2.2.1.2.2.2⟩) hcv h0 (C.2.2.2.2.1.w hm rfl) (C.2.2.2.2.1.w hcast rfl) hc1 hc2 hc3 kk
end KR
theorem tk_1 {w : Cond} (h : w ∈ tables_1_1) : w ∈ lw_tbl := List.mem_append_right _ (show w ∈ tables_1 from List.mem_append_left _ h)
theorem tk_2 {w : Cond} (h : w ∈ tables_1_2) : w ∈ lw_tbl := List.mem_append_right _ (show w ∈ tables_1 from List.mem_append_right _ (List.mem_append_left _ h))
theorem tk_3 {w : Cond} (h : w ∈ tables_1_3) : w ∈ lw_tbl := List.mem_append_right _ (show w ∈ tables_1 from List.mem_append_right _ (List.mem_append_right _ (List.mem_append_left _ h)))
theorem tk_4 {w : Cond} (h : w ∈ tables_1_4) : w ∈ lw_tbl := List.mem_append_right _ (show w ∈ tables_1 from List.mem_append_right _ (List.mem_append_right _ (List.mem_append_right _ (List.mem_append_left _ h))))
theorem tk_5 {w : Cond} (h : w ∈ tables_1_5) : w ∈ lw_tbl := List.mem_append_right _ (show w ∈ tables_1 from List.mem_append_right _ (List.mem_append_right _ (List.mem_append_right _ (List.mem_append_right _ (List.mem_append_left _ h)))))
theorem tk_6 {w : Cond} (h : w ∈ tables_1_6) : w ∈ lw_tbl := List.mem_append_right _ (show w ∈ tables_1 from List.mem_append_right _ (List.mem_append_right _ (List.mem_append_right _ (List.mem_append_right _ (List.mem_append_right _ (List.mem_append_left _ h))))))
theorem tk_7 {w : Cond} (h : w ∈ tables_1_7) : w ∈ lw_tbl := List.mem_append_right _ (show w ∈ tables_1 from List.mem_append_right _ (List.mem_append_right _ (List.mem_append_right _ (List.mem_append_right _ (List.mem_append_right _ (List.mem_append_right _ (List.mem_append_left _ h)))))))
theorem tk_8 {w : Cond} (h : w ∈ tables_1_8) : w ∈ lw_tbl := List.mem_append_right _ (show w ∈ tables_1 from List.mem_append_right _ (List.mem_append_right _ (List.mem_append_right _ (List.mem_append_right _ (List.mem_append_right _ (List.mem_append_right _ (List.mem_append_right _ (List.mem_append_left _ h))))))))
theorem tk_9 {w : Cond} (h : w ∈ tables_1_9) : w ∈ lw_tbl := List.mem_append_right _ (show w ∈ tables_1 from List.mem_append_right _ (List.mem_append_right _ (List.mem_append_right _ (List.mem_append_right _ (List.mem_append_right _ (List.mem_append_right _ (List.mem_append_right _ (List.mem_append_right _ (h)))))))))
abbrev of0 (F : Nat → Value) : List Value := [F 0, F 1, F 2, F 3, F 4, F 5, F 6]
def zF0 : Nat → Value := fun k => match k with | 0 => .null | 1 => .null | 2 => .int 0 | 3 => .int 0 | 4 => .int 0 | 5 => .long 0 | 6 => .long 0 | _ => .null
theorem zV0 : ∀ j, j < 7 → defaultValue (tyX0 j) = vp_V (of0 zF0) j := fun j hj => match j, hj with | 0, _ => rfl | 1, _ => rfl | 2, _ => rfl | 3, _ => rfl | 4, _ => rfl | 5, _ => rfl | 6, _ => rfl | j + 7, hj => absurd hj (by omega)
abbrev of1 (F : Nat → Value) : List Value := [F 0, F 1, F 2, F 3, F 4, F 5, F 6, F 7, F 8, F 9]
def zF1 : Nat → Value := fun k => match k with | 0 => .null | 1 => .null | 2 => .null | 3 => .null | 4 => .null | 5 => .null | 6 => .null | 7 => .null | 8 => .int 0 | 9 => .int 0 | _ => .null
theorem zV1 : ∀ j, j < 10 → defaultValue (tyX1 j) = vp_V (of1 zF1) j := fun j hj => match j, hj with | 0, _ => rfl | 1, _ => rfl | 2, _ => rfl | 3, _ => rfl | 4, _ => rfl | 5, _ => rfl | 6, _ => rfl | 7, _ => rfl | 8, _ => rfl | 9, _ => rfl | j + 10, hj => absurd hj (by omega)
abbrev of2 (F : Nat → Value) : List Value := [F 0, F 1, F 2, F 3, F 4, F 5, F 6, F 7, F 8]
def zF2 : Nat → Value := fun k => match k with | 0 => .null | 1 => .null | 2 => .null | 3 => .null | 4 => .int 0 | 5 => .int 0 | 6 => .int 0 | 7 => .int 0 | 8 => .int 0 | _ => .null
theorem zV2 : ∀ j, j < 9 → defaultValue (tyX2 j) = vp_V (of2 zF2) j := fun j hj => match j, hj with | 0, _ => rfl | 1, _ => rfl | 2, _ => rfl | 3, _ => rfl | 4, _ => rfl | 5, _ => rfl | 6, _ => rfl | 7, _ => rfl | 8, _ => rfl | j + 9, hj => absurd hj (by omega)
abbrev of3 (F : Nat → Value) : List Value := [F 0, F 1, F 2, F 3, F 4, F 5, F 6, F 7, F 8, F 9, F 10, F 11]
def zF3 : Nat → Value := fun k => match k with | 0 => .null | 1 => .null | 2 => .null | 3 => .null | 4 => .null | 5 => .null | 6 => .null | 7 => .null | 8 => .null | 9 => .int 0 | 10 => .int 0 | 11 => .int 0 | _ => .null
theorem zV3 : ∀ j, j < 12 → defaultValue (tyX3 j) = vp_V (of3 zF3) j := fun j hj => match j, hj with | 0, _ => rfl | 1, _ => rfl | 2, _ => rfl | 3, _ => rfl | 4, _ => rfl | 5, _ => rfl | 6, _ => rfl | 7, _ => rfl | 8, _ => rfl | 9, _ => rfl | 10, _ => rfl | 11, _ => rfl | j + 12, hj => absurd hj (by omega)
abbrev of4 (F : Nat → Value) : List Value := [F 0, F 1, F 2]
def zF4 : Nat → Value := fun k => match k with | 0 => .int 0 | 1 => .int 0 | 2 => .int 0 | _ => .null
theorem zV4 : ∀ j, j < 3 → defaultValue (tyX4 j) = vp_V (of4 zF4) j := fun j hj => match j, hj with | 0, _ => rfl | 1, _ => rfl | 2, _ => rfl | j + 3, hj => absurd hj (by omega)
abbrev of5 (F : Nat → Value) : List Value := [F 0, F 1, F 2, F 3, F 4, F 5, F 6, F 7, F 8, F 9, F 10, F 11, F 12, F 13]
def zF5 : Nat → Value := fun k => match k with | 0 => .null | 1 => .int 0 | 2 => .int 0 | 3 => .int 0 | 4 => .int 0 | 5 => .int 0 | 6 => .int 0 | 7 => .int 0 | 8 => .int 0 | 9 => .int 0 | 10 => .int 0 | 11 => .int 0 | 12 => .int 0 | 13 => .int 0 | _ => .null
theorem zV5 : ∀ j, j < 14 → defaultValue (tyX5 j) = vp_V (of5 zF5) j := fun j hj => match j, hj with | 0, _ => rfl | 1, _ => rfl | 2, _ => rfl | 3, _ => rfl | 4, _ => rfl | 5, _ => rfl | 6, _ => rfl | 7, _ => rfl | 8, _ => rfl | 9, _ => rfl | 10, _ => rfl | 11, _ => rfl | 12, _ => rfl | 13, _ => rfl | j + 14, hj => absurd hj (by omega)
abbrev of6 (F : Nat → Value) : List Value := [F 0, F 1, F 2, F 3, F 4, F 5, F 6, F 7, F 8, F 9, F 10]
def zF6 : Nat → Value := fun k => match k with | 0 => .null | 1 => .null | 2 => .int 0 | 3 => .int 0 | 4 => .int 0 | 5 => .int 0 | 6 => .int 0 | 7 => .int 0 | 8 => .int 0 | 9 => .int 0 | 10 => .int 0 | _ => .null
theorem zV6 : ∀ j, j < 11 → defaultValue (tyX6 j) = vp_V (of6 zF6) j := fun j hj => match j, hj with | 0, _ => rfl | 1, _ => rfl | 2, _ => rfl | 3, _ => rfl | 4, _ => rfl | 5, _ => rfl | 6, _ => rfl | 7, _ => rfl | 8, _ => rfl | 9, _ => rfl | 10, _ => rfl | j + 11, hj => absurd hj (by omega)
abbrev of7 (F : Nat → Value) : List Value := [F 0, F 1, F 2, F 3, F 4]
def zF7 : Nat → Value := fun k => match k with | 0 => .null | 1 => .null | 2 => .int 0 | 3 => .int 0 | 4 => .int 0 | _ => .null
theorem zV7 : ∀ j, j < 5 → defaultValue (tyX7 j) = vp_V (of7 zF7) j := fun j hj => match j, hj with | 0, _ => rfl | 1, _ => rfl | 2, _ => rfl | 3, _ => rfl | 4, _ => rfl | j + 5, hj => absurd hj (by omega)
abbrev of8 (F : Nat → Value) : List Value := [F 0, F 1, F 2, F 3, F 4]
def zF8 : Nat → Value := fun k => match k with | 0 => .null | 1 => .null | 2 => .null | 3 => .int 0 | 4 => .int 0 | _ => .null
theorem zV8 : ∀ j, j < 5 → defaultValue (tyX8 j) = vp_V (of8 zF8) j := fun j hj => match j, hj with | 0, _ => rfl | 1, _ => rfl | 2, _ => rfl | 3, _ => rfl | 4, _ => rfl | j + 5, hj => absurd hj (by omega)
abbrev of9 (F : Nat → Value) : List Value := [F 0, F 1, F 2, F 3, F 4, F 5]
def zF9 : Nat → Value := fun k => match k with | 0 => .null | 1 => .null | 2 => .null | 3 => .null | 4 => .null | 5 => .int 0 | _ => .null
theorem zV9 : ∀ j, j < 6 → defaultValue (tyX9 j) = vp_V (of9 zF9) j := fun j hj => match j, hj with | 0, _ => rfl | 1, _ => rfl | 2, _ => rfl | 3, _ => rfl | 4, _ => rfl | 5, _ => rfl | j + 6, hj => absurd hj (by omega)
abbrev of10 (F : Nat → Value) : List Value := [F 0, F 1, F 2, F 3, F 4, F 5, F 6]
def zF10 : Nat → Value := fun k => match k with | 0 => .null | 1 => .null | 2 => .null | 3 => .null | 4 => .int 0 | 5 => .int 0 | 6 => .int 0 | _ => .null
theorem zV10 : ∀ j, j < 7 → defaultValue (tyX10 j) = vp_V (of10 zF10) j := fun j hj => match j, hj with | 0, _ => rfl | 1, _ => rfl | 2, _ => rfl | 3, _ => rfl | 4, _ => rfl | 5, _ => rfl | 6, _ => rfl | j + 7, hj => absurd hj (by omega)
abbrev of11 (F : Nat → Value) : List Value := [F 0, F 1, F 2, F 3, F 4, F 5, F 6, F 7, F 8, F 9, F 10, F 11, F 12, F 13, F 14, F 15, F 16]
def zF11 : Nat → Value := fun k => match k with | 0 => .null | 1 => .null | 2 => .null | 3 => .null | 4 => .null | 5 => .null | 6 => .null | 7 => .null | 8 => .null | 9 => .null | 10 => .null | 11 => .null | 12 => .null | 13 => .int 0 | 14 => .int 0 | 15 => .int 0 | 16 => .int 0 | _ => .null
theorem zV11 : ∀ j, j < 17 → defaultValue (tyX11 j) = vp_V (of11 zF11) j := fun j hj => match j, hj with | 0, _ => rfl | 1, _ => rfl | 2, _ => rfl | 3, _ => rfl | 4, _ => rfl | 5, _ => rfl | 6, _ => rfl | 7, _ => rfl | 8, _ => rfl | 9, _ => rfl | 10, _ => rfl | 11, _ => rfl | 12, _ => rfl | 13, _ => rfl | 14, _ => rfl | 15, _ => rfl | 16, _ => rfl | j + 17, hj => absurd hj (by omega)
abbrev of12 (F : Nat → Value) : List Value := [F 0, F 1, F 2, F 3, F 4, F 5, F 6, F 7, F 8, F 9, F 10, F 11, F 12, F 13, F 14, F 15, F 16, F 17, F 18, F 19, F 20, F 21, F 22, F 23, F 24, F 25, F 26, F 27, F 28, F 29, F 30, F 31, F 32, F 33, F 34, F 35, F 36, F 37, F 38, F 39, F 40, F 41, F 42, F 43, F 44, F 45, F 46, F 47, F 48, F 49, F 50, F 51, F 52, F 53, F 54, F 55, F 56, F 57, F 58, F 59, F 60, F 61, F 62, F 63, F 64, F 65, F 66, F 67, F 68, F 69, F 70, F 71, F 72, F 73, F 74, F 75, F 76, F 77, F 78, F 79, F 80, F 81, F 82, F 83, F 84, F 85, F 86, F 87]
def zF12 : Nat → Value := fun k => match k with | 0 => .int 0 | 1 => .int 0 | 2 => .int 0 | 3 => .int 0 | 4 => .int 0 | 5 => .null | 6 => .null | 7 => .null | 8 => .null | 9 => .null | 10 => .null | 11 => .null | 12 => .null | 13 => .null | 14 => .null | 15 => .null | 16 => .null | 17 => .null | 18 => .int 0 | 19 => .int 0 | 20 => .int 0 | 21 => .null | 22 => .int 0 | 23 => .int 0 | 24 => .int 0 | 25 => .int 0 | 26 => .int 0 | 27 => .int 0 | 28 => .int 0 | 29 => .long 0 | 30 => .int 0 | 31 => .int 0 | 32 => .int 0 | 33 => .int 0 | 34 => .int 0 | 35 => .int 0 | 36 => .int 0 | 37 => .int 0 | 38 => .null | 39 => .null | 40 => .null | 41 => .null | 42 => .null | 43 => .null | 44 => .null | 45 => .null | 46 => .null | 47 => .null | 48 => .null | 49 => .null | 50 => .null | 51 => .null | 52 => .int 0 | 53 => .null | 54 => .null | 55 => .null | 56 => .null | 57 => .null | 58 => .null | 59 => .null | 60 => .int 0 | 61 => .int 0 | 62 => .int 0 | 63 => .null | 64 => .null | 65 => .int 0 | 66 => .null | 67 => .null | 68 => .null | 69 => .null | 70 => .int 0 | 71 => .int 0 | 72 => .null | 73 => .int 0 | 74 => .null | 75 => .null | 76 => .null | 77 => .null | 78 => .null | 79 => .int 0 | 80 => .int 0 | 81 => .int 0 | 82 => .int 0 | 83 => .int 0 | 84 => .int 0 | 85 => .null | 86 => .null | 87 => .null | _ => .null
theorem zV12 : ∀ j, j < 88 → defaultValue (tyX12 j) = vp_V (of12 zF12) j := fun j hj => match j, hj with | 0, _ => rfl | 1, _ => rfl | 2, _ => rfl | 3, _ => rfl | 4, _ => rfl | 5, _ => rfl | 6, _ => rfl | 7, _ => rfl | 8, _ => rfl | 9, _ => rfl | 10, _ => rfl | 11, _ => rfl | 12, _ => rfl | 13, _ => rfl | 14, _ => rfl | 15, _ => rfl | 16, _ => rfl | 17, _ => rfl | 18, _ => rfl | 19, _ => rfl | 20, _ => rfl | 21, _ => rfl | 22, _ => rfl | 23, _ => rfl | 24, _ => rfl | 25, _ => rfl | 26, _ => rfl | 27, _ => rfl | 28, _ => rfl | 29, _ => rfl | 30, _ => rfl | 31, _ => rfl | 32, _ => rfl | 33, _ => rfl | 34, _ => rfl | 35, _ => rfl | 36, _ => rfl | 37, _ => rfl | 38, _ => rfl | 39, _ => rfl | 40, _ => rfl | 41, _ => rfl | 42, _ => rfl | 43, _ => rfl | 44, _ => rfl | 45, _ => rfl | 46, _ => rfl | 47, _ => rfl | 48, _ => rfl | 49, _ => rfl | 50, _ => rfl | 51, _ => rfl | 52, _ => rfl | 53, _ => rfl | 54, _ => rfl | 55, _ => rfl | 56, _ => rfl | 57, _ => rfl | 58, _ => rfl | 59, _ => rfl | 60, _ => rfl | 61, _ => rfl | 62, _ => rfl | 63, _ => rfl | 64, _ => rfl | 65, _ => rfl | 66, _ => rfl | 67, _ => rfl | 68, _ => rfl | 69, _ => rfl | 70, _ => rfl | 71, _ => rfl | 72, _ => rfl | 73, _ => rfl | 74, _ => rfl | 75, _ => rfl | 76, _ => rfl | 77, _ => rfl | 78, _ => rfl | 79, _ => rfl | 80, _ => rfl | 81, _ => rfl | 82, _ => rfl | 83, _ => rfl | 84, _ => rfl | 85, _ => rfl | 86, _ => rfl | 87, _ => rfl | j + 88, hj => absurd hj (by omega)
end
