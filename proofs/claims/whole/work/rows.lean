section
-- ===== PART A: goes FIRST, ahead of the names: the tables' words, and 'selects' of the private methods out of them =====
/-- a private method of a class that the tables say can be made, by its rows of tables_1 -/
def lw_okq (q : MethodName × Nat) : Prop := (q.1.cls ≠ "java/lang/invoke/MethodHandle" ∧ q.1.cls ≠ "java/lang/invoke/VarHandle") ∧ Cond.instantiable q.1.cls q.2 ∈ tables_1 ∧ Cond.privateMethod q.1 ∈ tables_1 ∧ Cond.instanceMethod q.1 ∈ tables_1
theorem lw_p0 : lw_okq (⟨"FireLeave$Tape", "signAt", "(I)I"⟩, 4) := ⟨⟨by decide +kernel, by decide +kernel⟩, List.mem_of_getElem? (i := 32) (by decide +kernel), List.mem_of_getElem? (i := 283) (by decide +kernel), List.mem_of_getElem? (i := 284) (by decide +kernel)⟩
theorem lw_p1 : lw_okq (⟨"FireLeave$TextReader", "takeLine", "(I)V"⟩, 9) := ⟨⟨by decide +kernel, by decide +kernel⟩, List.mem_of_getElem? (i := 26) (by decide +kernel), List.mem_of_getElem? (i := 287) (by decide +kernel), List.mem_of_getElem? (i := 288) (by decide +kernel)⟩
theorem lw_p2 : lw_okq (⟨"FireLeave$TextReader", "lineByName", "()I"⟩, 9) := ⟨⟨by decide +kernel, by decide +kernel⟩, List.mem_of_getElem? (i := 26) (by decide +kernel), List.mem_of_getElem? (i := 291) (by decide +kernel), List.mem_of_getElem? (i := 292) (by decide +kernel)⟩
theorem lw_p3 : lw_okq (⟨"FireLeave$TextReader", "refuseToken", "(I)V"⟩, 9) := ⟨⟨by decide +kernel, by decide +kernel⟩, List.mem_of_getElem? (i := 26) (by decide +kernel), List.mem_of_getElem? (i := 354) (by decide +kernel), List.mem_of_getElem? (i := 355) (by decide +kernel)⟩
theorem lw_p4 : lw_okq (⟨"FireLeave$TextReader", "fail", "(II)V"⟩, 9) := ⟨⟨by decide +kernel, by decide +kernel⟩, List.mem_of_getElem? (i := 26) (by decide +kernel), List.mem_of_getElem? (i := 358) (by decide +kernel), List.mem_of_getElem? (i := 359) (by decide +kernel)⟩
theorem lw_p5 : lw_okq (⟨"FireLeave$TextReader", "takeFire", "()V"⟩, 9) := ⟨⟨by decide +kernel, by decide +kernel⟩, List.mem_of_getElem? (i := 26) (by decide +kernel), List.mem_of_getElem? (i := 362) (by decide +kernel), List.mem_of_getElem? (i := 363) (by decide +kernel)⟩
theorem lw_p6 : lw_okq (⟨"FireLeave$TextReader", "takeNumber", "(II)I"⟩, 9) := ⟨⟨by decide +kernel, by decide +kernel⟩, List.mem_of_getElem? (i := 26) (by decide +kernel), List.mem_of_getElem? (i := 366) (by decide +kernel), List.mem_of_getElem? (i := 367) (by decide +kernel)⟩
theorem lw_p7 : lw_okq (⟨"FireLeave$TextReader", "takeRain", "()V"⟩, 9) := ⟨⟨by decide +kernel, by decide +kernel⟩, List.mem_of_getElem? (i := 26) (by decide +kernel), List.mem_of_getElem? (i := 375) (by decide +kernel), List.mem_of_getElem? (i := 376) (by decide +kernel)⟩
theorem lw_p8 : lw_okq (⟨"FireLeave$TextReader", "takeOffer", "()V"⟩, 9) := ⟨⟨by decide +kernel, by decide +kernel⟩, List.mem_of_getElem? (i := 26) (by decide +kernel), List.mem_of_getElem? (i := 379) (by decide +kernel), List.mem_of_getElem? (i := 380) (by decide +kernel)⟩
theorem lw_p9 : lw_okq (⟨"FireLeave$TextReader", "takeHouse", "(I)V"⟩, 9) := ⟨⟨by decide +kernel, by decide +kernel⟩, List.mem_of_getElem? (i := 26) (by decide +kernel), List.mem_of_getElem? (i := 383) (by decide +kernel), List.mem_of_getElem? (i := 384) (by decide +kernel)⟩
theorem lw_p10 : lw_okq (⟨"FireLeave$TextReader", "takeStop", "()V"⟩, 9) := ⟨⟨by decide +kernel, by decide +kernel⟩, List.mem_of_getElem? (i := 26) (by decide +kernel), List.mem_of_getElem? (i := 391) (by decide +kernel), List.mem_of_getElem? (i := 392) (by decide +kernel)⟩
theorem lw_p11 : lw_okq (⟨"FireLeave$TextReader", "checkHouses", "()V"⟩, 9) := ⟨⟨by decide +kernel, by decide +kernel⟩, List.mem_of_getElem? (i := 26) (by decide +kernel), List.mem_of_getElem? (i := 395) (by decide +kernel), List.mem_of_getElem? (i := 396) (by decide +kernel)⟩
theorem lw_p12 : lw_okq (⟨"FireLeave$TextReader", "makeOffers", "()V"⟩, 9) := ⟨⟨by decide +kernel, by decide +kernel⟩, List.mem_of_getElem? (i := 26) (by decide +kernel), List.mem_of_getElem? (i := 403) (by decide +kernel), List.mem_of_getElem? (i := 404) (by decide +kernel)⟩
theorem lw_p13 : lw_okq (⟨"FireLeave$City", "give", "(II)V"⟩, 12) := ⟨⟨by decide +kernel, by decide +kernel⟩, List.mem_of_getElem? (i := 55) (by decide +kernel), List.mem_of_getElem? (i := 413) (by decide +kernel), List.mem_of_getElem? (i := 414) (by decide +kernel)⟩
theorem lw_p14 : lw_okq (⟨"FireLeave$City", "burn", "(II)I"⟩, 12) := ⟨⟨by decide +kernel, by decide +kernel⟩, List.mem_of_getElem? (i := 55) (by decide +kernel), List.mem_of_getElem? (i := 480) (by decide +kernel), List.mem_of_getElem? (i := 481) (by decide +kernel)⟩
theorem lw_p15 : lw_okq (⟨"FireLeave", "startTrial", "()V"⟩, 10) := ⟨⟨by decide +kernel, by decide +kernel⟩, List.mem_of_getElem? (i := 18) (by decide +kernel), List.mem_of_getElem? (i := 488) (by decide +kernel), List.mem_of_getElem? (i := 489) (by decide +kernel)⟩
def lw_privs_1 : List (MethodName × Nat) := [(⟨"FireLeave$Tape", "signAt", "(I)I"⟩, 4), (⟨"FireLeave$TextReader", "takeLine", "(I)V"⟩, 9), (⟨"FireLeave$TextReader", "lineByName", "()I"⟩, 9), (⟨"FireLeave$TextReader", "refuseToken", "(I)V"⟩, 9), (⟨"FireLeave$TextReader", "fail", "(II)V"⟩, 9), (⟨"FireLeave$TextReader", "takeFire", "()V"⟩, 9), (⟨"FireLeave$TextReader", "takeNumber", "(II)I"⟩, 9), (⟨"FireLeave$TextReader", "takeRain", "()V"⟩, 9), (⟨"FireLeave$TextReader", "takeOffer", "()V"⟩, 9), (⟨"FireLeave$TextReader", "takeHouse", "(I)V"⟩, 9), (⟨"FireLeave$TextReader", "takeStop", "()V"⟩, 9), (⟨"FireLeave$TextReader", "checkHouses", "()V"⟩, 9), (⟨"FireLeave$TextReader", "makeOffers", "()V"⟩, 9), (⟨"FireLeave$City", "give", "(II)V"⟩, 12), (⟨"FireLeave$City", "burn", "(II)I"⟩, 12), (⟨"FireLeave", "startTrial", "()V"⟩, 10)]
theorem lw_r1 : ∀ q ∈ lw_privs_1, lw_okq q := List.forall_mem_cons.mpr ⟨lw_p0, List.forall_mem_cons.mpr ⟨lw_p1, List.forall_mem_cons.mpr ⟨lw_p2, List.forall_mem_cons.mpr ⟨lw_p3, List.forall_mem_cons.mpr ⟨lw_p4, List.forall_mem_cons.mpr ⟨lw_p5, List.forall_mem_cons.mpr ⟨lw_p6, List.forall_mem_cons.mpr ⟨lw_p7, List.forall_mem_cons.mpr ⟨lw_p8, List.forall_mem_cons.mpr ⟨lw_p9, List.forall_mem_cons.mpr ⟨lw_p10, List.forall_mem_cons.mpr ⟨lw_p11, List.forall_mem_cons.mpr ⟨lw_p12, List.forall_mem_cons.mpr ⟨lw_p13, List.forall_mem_cons.mpr ⟨lw_p14, List.forall_mem_cons.mpr ⟨lw_p15, fun _ h => absurd h List.not_mem_nil⟩⟩⟩⟩⟩⟩⟩⟩⟩⟩⟩⟩⟩⟩⟩⟩
theorem lw_p16 : lw_okq (⟨"FireLeave", "lossByKinds", "(II)I"⟩, 10) := ⟨⟨by decide +kernel, by decide +kernel⟩, List.mem_of_getElem? (i := 18) (by decide +kernel), List.mem_of_getElem? (i := 516) (by decide +kernel), List.mem_of_getElem? (i := 517) (by decide +kernel)⟩
theorem lw_p17 : lw_okq (⟨"FireLeave", "lossAsItIs", "(I)I"⟩, 10) := ⟨⟨by decide +kernel, by decide +kernel⟩, List.mem_of_getElem? (i := 18) (by decide +kernel), List.mem_of_getElem? (i := 537) (by decide +kernel), List.mem_of_getElem? (i := 538) (by decide +kernel)⟩
theorem lw_p18 : lw_okq (⟨"FireLeave", "playWith", "(III)LFireLeave$City;"⟩, 10) := ⟨⟨by decide +kernel, by decide +kernel⟩, List.mem_of_getElem? (i := 18) (by decide +kernel), List.mem_of_getElem? (i := 541) (by decide +kernel), List.mem_of_getElem? (i := 542) (by decide +kernel)⟩
theorem lw_p19 : lw_okq (⟨"FireLeave", "oddsOfOut", "(II)J"⟩, 10) := ⟨⟨by decide +kernel, by decide +kernel⟩, List.mem_of_getElem? (i := 18) (by decide +kernel), List.mem_of_getElem? (i := 594) (by decide +kernel), List.mem_of_getElem? (i := 595) (by decide +kernel)⟩
theorem lw_p20 : lw_okq (⟨"FireLeave", "tryKinds", "(II)V"⟩, 10) := ⟨⟨by decide +kernel, by decide +kernel⟩, List.mem_of_getElem? (i := 18) (by decide +kernel), List.mem_of_getElem? (i := 626) (by decide +kernel), List.mem_of_getElem? (i := 627) (by decide +kernel)⟩
theorem lw_p21 : lw_okq (⟨"FireLeave", "tallyFitting", "()I"⟩, 10) := ⟨⟨by decide +kernel, by decide +kernel⟩, List.mem_of_getElem? (i := 18) (by decide +kernel), List.mem_of_getElem? (i := 642) (by decide +kernel), List.mem_of_getElem? (i := 643) (by decide +kernel)⟩
theorem lw_p22 : lw_okq (⟨"FireLeave", "mostInRow", "(I)I"⟩, 10) := ⟨⟨by decide +kernel, by decide +kernel⟩, List.mem_of_getElem? (i := 18) (by decide +kernel), List.mem_of_getElem? (i := 647) (by decide +kernel), List.mem_of_getElem? (i := 648) (by decide +kernel)⟩
theorem lw_p23 : lw_okq (⟨"FireLeave", "imagesKept", "()I"⟩, 10) := ⟨⟨by decide +kernel, by decide +kernel⟩, List.mem_of_getElem? (i := 18) (by decide +kernel), List.mem_of_getElem? (i := 722) (by decide +kernel), List.mem_of_getElem? (i := 723) (by decide +kernel)⟩
theorem lw_p24 : lw_okq (⟨"FireLeaveModel", "firstDraft", "()V"⟩, 28) := ⟨⟨by decide +kernel, by decide +kernel⟩, List.mem_of_getElem? (i := 726) (by decide +kernel), List.mem_of_getElem? (i := 732) (by decide +kernel), List.mem_of_getElem? (i := 733) (by decide +kernel)⟩
theorem lw_p25 : lw_okq (⟨"FireLeaveModel", "keepDraft", "()V"⟩, 28) := ⟨⟨by decide +kernel, by decide +kernel⟩, List.mem_of_getElem? (i := 726) (by decide +kernel), List.mem_of_getElem? (i := 736) (by decide +kernel), List.mem_of_getElem? (i := 737) (by decide +kernel)⟩
theorem lw_p26 : lw_okq (⟨"FireLeaveModel", "next", "()V"⟩, 28) := ⟨⟨by decide +kernel, by decide +kernel⟩, List.mem_of_getElem? (i := 726) (by decide +kernel), List.mem_of_getElem? (i := 842) (by decide +kernel), List.mem_of_getElem? (i := 843) (by decide +kernel)⟩
theorem lw_p27 : lw_okq (⟨"FireLeaveModel", "byteAt", "(I)I"⟩, 28) := ⟨⟨by decide +kernel, by decide +kernel⟩, List.mem_of_getElem? (i := 726) (by decide +kernel), List.mem_of_getElem? (i := 846) (by decide +kernel), List.mem_of_getElem? (i := 847) (by decide +kernel)⟩
theorem lw_p28 : lw_okq (⟨"FireLeaveModel", "needs", "(ZI)V"⟩, 28) := ⟨⟨by decide +kernel, by decide +kernel⟩, List.mem_of_getElem? (i := 726) (by decide +kernel), List.mem_of_getElem? (i := 854) (by decide +kernel), List.mem_of_getElem? (i := 855) (by decide +kernel)⟩
theorem lw_p29 : lw_okq (⟨"FireLeaveModel", "readLine", "()V"⟩, 28) := ⟨⟨by decide +kernel, by decide +kernel⟩, List.mem_of_getElem? (i := 726) (by decide +kernel), List.mem_of_getElem? (i := 858) (by decide +kernel), List.mem_of_getElem? (i := 859) (by decide +kernel)⟩
theorem lw_p30 : lw_okq (⟨"FireLeaveModel", "lineNow", "()I"⟩, 28) := ⟨⟨by decide +kernel, by decide +kernel⟩, List.mem_of_getElem? (i := 726) (by decide +kernel), List.mem_of_getElem? (i := 862) (by decide +kernel), List.mem_of_getElem? (i := 863) (by decide +kernel)⟩
theorem lw_p31 : lw_okq (⟨"FireLeaveModel", "is", "(IIII)Z"⟩, 28) := ⟨⟨by decide +kernel, by decide +kernel⟩, List.mem_of_getElem? (i := 726) (by decide +kernel), List.mem_of_getElem? (i := 866) (by decide +kernel), List.mem_of_getElem? (i := 867) (by decide +kernel)⟩
def lw_privs_2 : List (MethodName × Nat) := [(⟨"FireLeave", "lossByKinds", "(II)I"⟩, 10), (⟨"FireLeave", "lossAsItIs", "(I)I"⟩, 10), (⟨"FireLeave", "playWith", "(III)LFireLeave$City;"⟩, 10), (⟨"FireLeave", "oddsOfOut", "(II)J"⟩, 10), (⟨"FireLeave", "tryKinds", "(II)V"⟩, 10), (⟨"FireLeave", "tallyFitting", "()I"⟩, 10), (⟨"FireLeave", "mostInRow", "(I)I"⟩, 10), (⟨"FireLeave", "imagesKept", "()I"⟩, 10), (⟨"FireLeaveModel", "firstDraft", "()V"⟩, 28), (⟨"FireLeaveModel", "keepDraft", "()V"⟩, 28), (⟨"FireLeaveModel", "next", "()V"⟩, 28), (⟨"FireLeaveModel", "byteAt", "(I)I"⟩, 28), (⟨"FireLeaveModel", "needs", "(ZI)V"⟩, 28), (⟨"FireLeaveModel", "readLine", "()V"⟩, 28), (⟨"FireLeaveModel", "lineNow", "()I"⟩, 28), (⟨"FireLeaveModel", "is", "(IIII)Z"⟩, 28)]
theorem lw_r2 : ∀ q ∈ lw_privs_2, lw_okq q := List.forall_mem_cons.mpr ⟨lw_p16, List.forall_mem_cons.mpr ⟨lw_p17, List.forall_mem_cons.mpr ⟨lw_p18, List.forall_mem_cons.mpr ⟨lw_p19, List.forall_mem_cons.mpr ⟨lw_p20, List.forall_mem_cons.mpr ⟨lw_p21, List.forall_mem_cons.mpr ⟨lw_p22, List.forall_mem_cons.mpr ⟨lw_p23, List.forall_mem_cons.mpr ⟨lw_p24, List.forall_mem_cons.mpr ⟨lw_p25, List.forall_mem_cons.mpr ⟨lw_p26, List.forall_mem_cons.mpr ⟨lw_p27, List.forall_mem_cons.mpr ⟨lw_p28, List.forall_mem_cons.mpr ⟨lw_p29, List.forall_mem_cons.mpr ⟨lw_p30, List.forall_mem_cons.mpr ⟨lw_p31, fun _ h => absurd h List.not_mem_nil⟩⟩⟩⟩⟩⟩⟩⟩⟩⟩⟩⟩⟩⟩⟩⟩
theorem lw_p32 : lw_okq (⟨"FireLeaveModel", "ends", "(III)Z"⟩, 28) := ⟨⟨by decide +kernel, by decide +kernel⟩, List.mem_of_getElem? (i := 726) (by decide +kernel), List.mem_of_getElem? (i := 870) (by decide +kernel), List.mem_of_getElem? (i := 871) (by decide +kernel)⟩
theorem lw_p33 : lw_okq (⟨"FireLeaveModel", "readLineOf", "(I)V"⟩, 28) := ⟨⟨by decide +kernel, by decide +kernel⟩, List.mem_of_getElem? (i := 726) (by decide +kernel), List.mem_of_getElem? (i := 874) (by decide +kernel), List.mem_of_getElem? (i := 875) (by decide +kernel)⟩
theorem lw_p34 : lw_okq (⟨"FireLeaveModel", "readHouse", "()I"⟩, 28) := ⟨⟨by decide +kernel, by decide +kernel⟩, List.mem_of_getElem? (i := 726) (by decide +kernel), List.mem_of_getElem? (i := 878) (by decide +kernel), List.mem_of_getElem? (i := 879) (by decide +kernel)⟩
theorem lw_p35 : lw_okq (⟨"FireLeaveModel", "readNumber", "(II)I"⟩, 28) := ⟨⟨by decide +kernel, by decide +kernel⟩, List.mem_of_getElem? (i := 726) (by decide +kernel), List.mem_of_getElem? (i := 882) (by decide +kernel), List.mem_of_getElem? (i := 883) (by decide +kernel)⟩
theorem lw_p36 : lw_okq (⟨"FireLeaveModel", "looked", "(II)I"⟩, 28) := ⟨⟨by decide +kernel, by decide +kernel⟩, List.mem_of_getElem? (i := 726) (by decide +kernel), List.mem_of_getElem? (i := 886) (by decide +kernel), List.mem_of_getElem? (i := 887) (by decide +kernel)⟩
theorem lw_p37 : lw_okq (⟨"FireLeaveModel", "readRain", "()V"⟩, 28) := ⟨⟨by decide +kernel, by decide +kernel⟩, List.mem_of_getElem? (i := 726) (by decide +kernel), List.mem_of_getElem? (i := 890) (by decide +kernel), List.mem_of_getElem? (i := 891) (by decide +kernel)⟩
theorem lw_p38 : lw_okq (⟨"FireLeaveModel", "offersCome", "()V"⟩, 28) := ⟨⟨by decide +kernel, by decide +kernel⟩, List.mem_of_getElem? (i := 726) (by decide +kernel), List.mem_of_getElem? (i := 894) (by decide +kernel), List.mem_of_getElem? (i := 895) (by decide +kernel)⟩
theorem lw_p39 : lw_okq (⟨"FireLeaveModel", "starts", "()V"⟩, 28) := ⟨⟨by decide +kernel, by decide +kernel⟩, List.mem_of_getElem? (i := 726) (by decide +kernel), List.mem_of_getElem? (i := 906) (by decide +kernel), List.mem_of_getElem? (i := 907) (by decide +kernel)⟩
theorem lw_p40 : lw_okq (⟨"FireLeaveModel", "allOf", "(I)I"⟩, 28) := ⟨⟨by decide +kernel, by decide +kernel⟩, List.mem_of_getElem? (i := 726) (by decide +kernel), List.mem_of_getElem? (i := 910) (by decide +kernel), List.mem_of_getElem? (i := 911) (by decide +kernel)⟩
theorem lw_p41 : lw_okq (⟨"FireLeaveModel", "isHouse", "(I)Z"⟩, 28) := ⟨⟨by decide +kernel, by decide +kernel⟩, List.mem_of_getElem? (i := 726) (by decide +kernel), List.mem_of_getElem? (i := 918) (by decide +kernel), List.mem_of_getElem? (i := 919) (by decide +kernel)⟩
theorem lw_p42 : lw_okq (⟨"FireLeaveModel", "becomes", "(II)I"⟩, 28) := ⟨⟨by decide +kernel, by decide +kernel⟩, List.mem_of_getElem? (i := 726) (by decide +kernel), List.mem_of_getElem? (i := 932) (by decide +kernel), List.mem_of_getElem? (i := 933) (by decide +kernel)⟩
theorem lw_p43 : lw_okq (⟨"FireLeaveModel", "gives", "(II)V"⟩, 28) := ⟨⟨by decide +kernel, by decide +kernel⟩, List.mem_of_getElem? (i := 726) (by decide +kernel), List.mem_of_getElem? (i := 951) (by decide +kernel), List.mem_of_getElem? (i := 952) (by decide +kernel)⟩
theorem lw_p44 : lw_okq (⟨"FireLeaveModel", "settles", "()V"⟩, 28) := ⟨⟨by decide +kernel, by decide +kernel⟩, List.mem_of_getElem? (i := 726) (by decide +kernel), List.mem_of_getElem? (i := 955) (by decide +kernel), List.mem_of_getElem? (i := 956) (by decide +kernel)⟩
theorem lw_p45 : lw_okq (⟨"FireLeaveModel", "nightsGo", "(I)V"⟩, 28) := ⟨⟨by decide +kernel, by decide +kernel⟩, List.mem_of_getElem? (i := 726) (by decide +kernel), List.mem_of_getElem? (i := 964) (by decide +kernel), List.mem_of_getElem? (i := 965) (by decide +kernel)⟩
theorem lw_p46 : lw_okq (⟨"FireLeaveModel", "nightGoes", "()V"⟩, 28) := ⟨⟨by decide +kernel, by decide +kernel⟩, List.mem_of_getElem? (i := 726) (by decide +kernel), List.mem_of_getElem? (i := 968) (by decide +kernel), List.mem_of_getElem? (i := 969) (by decide +kernel)⟩
theorem lw_p47 : lw_okq (⟨"FireLeaveModel", "asks", "()V"⟩, 28) := ⟨⟨by decide +kernel, by decide +kernel⟩, List.mem_of_getElem? (i := 726) (by decide +kernel), List.mem_of_getElem? (i := 972) (by decide +kernel), List.mem_of_getElem? (i := 973) (by decide +kernel)⟩
def lw_privs_3 : List (MethodName × Nat) := [(⟨"FireLeaveModel", "ends", "(III)Z"⟩, 28), (⟨"FireLeaveModel", "readLineOf", "(I)V"⟩, 28), (⟨"FireLeaveModel", "readHouse", "()I"⟩, 28), (⟨"FireLeaveModel", "readNumber", "(II)I"⟩, 28), (⟨"FireLeaveModel", "looked", "(II)I"⟩, 28), (⟨"FireLeaveModel", "readRain", "()V"⟩, 28), (⟨"FireLeaveModel", "offersCome", "()V"⟩, 28), (⟨"FireLeaveModel", "starts", "()V"⟩, 28), (⟨"FireLeaveModel", "allOf", "(I)I"⟩, 28), (⟨"FireLeaveModel", "isHouse", "(I)Z"⟩, 28), (⟨"FireLeaveModel", "becomes", "(II)I"⟩, 28), (⟨"FireLeaveModel", "gives", "(II)V"⟩, 28), (⟨"FireLeaveModel", "settles", "()V"⟩, 28), (⟨"FireLeaveModel", "nightsGo", "(I)V"⟩, 28), (⟨"FireLeaveModel", "nightGoes", "()V"⟩, 28), (⟨"FireLeaveModel", "asks", "()V"⟩, 28)]
theorem lw_r3 : ∀ q ∈ lw_privs_3, lw_okq q := List.forall_mem_cons.mpr ⟨lw_p32, List.forall_mem_cons.mpr ⟨lw_p33, List.forall_mem_cons.mpr ⟨lw_p34, List.forall_mem_cons.mpr ⟨lw_p35, List.forall_mem_cons.mpr ⟨lw_p36, List.forall_mem_cons.mpr ⟨lw_p37, List.forall_mem_cons.mpr ⟨lw_p38, List.forall_mem_cons.mpr ⟨lw_p39, List.forall_mem_cons.mpr ⟨lw_p40, List.forall_mem_cons.mpr ⟨lw_p41, List.forall_mem_cons.mpr ⟨lw_p42, List.forall_mem_cons.mpr ⟨lw_p43, List.forall_mem_cons.mpr ⟨lw_p44, List.forall_mem_cons.mpr ⟨lw_p45, List.forall_mem_cons.mpr ⟨lw_p46, List.forall_mem_cons.mpr ⟨lw_p47, fun _ h => absurd h List.not_mem_nil⟩⟩⟩⟩⟩⟩⟩⟩⟩⟩⟩⟩⟩⟩⟩⟩
theorem lw_p48 : lw_okq (⟨"FireLeaveModel", "burns", "(II)I"⟩, 28) := ⟨⟨by decide +kernel, by decide +kernel⟩, List.mem_of_getElem? (i := 726) (by decide +kernel), List.mem_of_getElem? (i := 979) (by decide +kernel), List.mem_of_getElem? (i := 980) (by decide +kernel)⟩
theorem lw_p49 : lw_okq (⟨"FireLeaveModel", "numbers", "()I"⟩, 28) := ⟨⟨by decide +kernel, by decide +kernel⟩, List.mem_of_getElem? (i := 726) (by decide +kernel), List.mem_of_getElem? (i := 1001) (by decide +kernel), List.mem_of_getElem? (i := 1002) (by decide +kernel)⟩
theorem lw_p50 : lw_okq (⟨"FireLeaveModel", "startsBy", "(I)V"⟩, 28) := ⟨⟨by decide +kernel, by decide +kernel⟩, List.mem_of_getElem? (i := 726) (by decide +kernel), List.mem_of_getElem? (i := 1005) (by decide +kernel), List.mem_of_getElem? (i := 1006) (by decide +kernel)⟩
theorem lw_p51 : lw_okq (⟨"FireLeaveModel", "lossOf", "(I)I"⟩, 28) := ⟨⟨by decide +kernel, by decide +kernel⟩, List.mem_of_getElem? (i := 726) (by decide +kernel), List.mem_of_getElem? (i := 1009) (by decide +kernel), List.mem_of_getElem? (i := 1010) (by decide +kernel)⟩
theorem lw_p52 : lw_okq (⟨"FireLeaveModel", "startsWithCooks", "(I)V"⟩, 28) := ⟨⟨by decide +kernel, by decide +kernel⟩, List.mem_of_getElem? (i := 726) (by decide +kernel), List.mem_of_getElem? (i := 1027) (by decide +kernel), List.mem_of_getElem? (i := 1028) (by decide +kernel)⟩
theorem lw_p53 : lw_okq (⟨"FireLeaveModel", "valueOf", "(II)I"⟩, 28) := ⟨⟨by decide +kernel, by decide +kernel⟩, List.mem_of_getElem? (i := 726) (by decide +kernel), List.mem_of_getElem? (i := 1043) (by decide +kernel), List.mem_of_getElem? (i := 1044) (by decide +kernel)⟩
theorem lw_p54 : lw_okq (⟨"FireLeaveModel", "findOdds", "(II)V"⟩, 28) := ⟨⟨by decide +kernel, by decide +kernel⟩, List.mem_of_getElem? (i := 726) (by decide +kernel), List.mem_of_getElem? (i := 1066) (by decide +kernel), List.mem_of_getElem? (i := 1067) (by decide +kernel)⟩
theorem lw_p55 : lw_okq (⟨"FireLeaveModel", "isFit", "(I)Z"⟩, 28) := ⟨⟨by decide +kernel, by decide +kernel⟩, List.mem_of_getElem? (i := 726) (by decide +kernel), List.mem_of_getElem? (i := 1086) (by decide +kernel), List.mem_of_getElem? (i := 1087) (by decide +kernel)⟩
theorem lw_p56 : lw_okq (⟨"FireLeaveModel", "copies", "(II)V"⟩, 28) := ⟨⟨by decide +kernel, by decide +kernel⟩, List.mem_of_getElem? (i := 726) (by decide +kernel), List.mem_of_getElem? (i := 1104) (by decide +kernel), List.mem_of_getElem? (i := 1105) (by decide +kernel)⟩
def lw_privs_4 : List (MethodName × Nat) := [(⟨"FireLeaveModel", "burns", "(II)I"⟩, 28), (⟨"FireLeaveModel", "numbers", "()I"⟩, 28), (⟨"FireLeaveModel", "startsBy", "(I)V"⟩, 28), (⟨"FireLeaveModel", "lossOf", "(I)I"⟩, 28), (⟨"FireLeaveModel", "startsWithCooks", "(I)V"⟩, 28), (⟨"FireLeaveModel", "valueOf", "(II)I"⟩, 28), (⟨"FireLeaveModel", "findOdds", "(II)V"⟩, 28), (⟨"FireLeaveModel", "isFit", "(I)Z"⟩, 28), (⟨"FireLeaveModel", "copies", "(II)V"⟩, 28)]
theorem lw_r4 : ∀ q ∈ lw_privs_4, lw_okq q := List.forall_mem_cons.mpr ⟨lw_p48, List.forall_mem_cons.mpr ⟨lw_p49, List.forall_mem_cons.mpr ⟨lw_p50, List.forall_mem_cons.mpr ⟨lw_p51, List.forall_mem_cons.mpr ⟨lw_p52, List.forall_mem_cons.mpr ⟨lw_p53, List.forall_mem_cons.mpr ⟨lw_p54, List.forall_mem_cons.mpr ⟨lw_p55, List.forall_mem_cons.mpr ⟨lw_p56, fun _ h => absurd h List.not_mem_nil⟩⟩⟩⟩⟩⟩⟩⟩⟩
def lw_privs : List (MethodName × Nat) := lw_privs_1 ++ (lw_privs_2 ++ (lw_privs_3 ++ (lw_privs_4)))
def lw_tbl : List Cond := k2_sels lw_privs ++ tables_1
theorem lw_privs_ok : ∀ q ∈ lw_privs, lw_okq q := by
  show ∀ q ∈ lw_privs_1 ++ (lw_privs_2 ++ (lw_privs_3 ++ (lw_privs_4))), lw_okq q
  exact List.forall_mem_append.mpr ⟨lw_r1, List.forall_mem_append.mpr ⟨lw_r2, List.forall_mem_append.mpr ⟨lw_r3, lw_r4⟩⟩⟩
end
section
def RX0 : String := "FireLeave$City"
def TX0 : u_T := fun k => match k with
  | 0 => ("FireLeave$City", "kind", "[I", true)
  | 1 => ("FireLeave$City", "worth", "[I", true)
  | 2 => ("FireLeave$City", "lost", "[I", true)
  | 3 => ("FireLeave$City", "burntOf", "[I", true)
  | 4 => ("FireLeave$City", "houses", "I", false)
  | 5 => ("FireLeave$City", "at", "I", false)
  | 6 => ("FireLeave$City", "hunger", "I", false)
  | 7 => ("FireLeave$City", "temper", "I", false)
  | 8 => ("FireLeave$City", "rainBits", "I", false)
  | 9 => ("FireLeave$City", "night", "I", false)
  | 10 => ("FireLeave$City", "burnt", "I", false)
  | _ => ("FireLeave$City", "given", "I", false)
def tyX0 : Nat → FieldType := fun k => match k with
  | 0 => .array .int
  | 1 => .array .int
  | 2 => .array .int
  | 3 => .array .int
  | 4 => .int
  | 5 => .int
  | 6 => .int
  | 7 => .int
  | 8 => .int
  | 9 => .int
  | 10 => .int
  | _ => .int
abbrev wsX00 : List Cond := u_ws RX0 TX0 12
theorem nmX0 : ∀ a, a < 12 → ∀ b, b < 12 → a ≠ b → (TX0 a).2.1 ≠ (TX0 b).2.1 := by decide +kernel
theorem tyX0_ok : ∀ k, k < 12 → parseFieldDescriptor (TX0 k).2.2.1 = some (tyX0 k) := by decide +kernel
abbrev cX0_init : ByteArray := prog_2_method_1_code
def yX0_init : MethodName := ⟨RX0, "<init>", "()V"⟩
abbrev cX0_clear : ByteArray := prog_2_method_2_code
def yX0_clear : MethodName := ⟨RX0, "clear", "()V"⟩
abbrev cX0_becomeLike : ByteArray := prog_2_method_3_code
def yX0_becomeLike : MethodName := ⟨RX0, "becomeLike", "(LFireLeave$City;)V"⟩
abbrev cX0_forgetLoss : ByteArray := prog_2_method_4_code
def yX0_forgetLoss : MethodName := ⟨RX0, "forgetLoss", "()V"⟩
abbrev cX0_loss : ByteArray := prog_2_method_5_code
def yX0_loss : MethodName := ⟨RX0, "loss", "()I"⟩
abbrev cX0_has : ByteArray := prog_2_method_6_code
def yX0_has : MethodName := ⟨RX0, "has", "(I)Z"⟩
abbrev cX0_addHouse : ByteArray := prog_2_method_7_code
def yX0_addHouse : MethodName := ⟨RX0, "addHouse", "(II)V"⟩
abbrev cX0_allWorth : ByteArray := prog_2_method_8_code
def yX0_allWorth : MethodName := ⟨RX0, "allWorth", "()I"⟩
abbrev cX0_allLost : ByteArray := prog_2_method_9_code
def yX0_allLost : MethodName := ⟨RX0, "allLost", "()I"⟩
abbrev cX0_allKinds : ByteArray := prog_2_method_10_code
def yX0_allKinds : MethodName := ⟨RX0, "allKinds", "()I"⟩
abbrev cX0_kindBy : ByteArray := prog_2_method_11_code
def yX0_kindBy : MethodName := ⟨RX0, "kindBy", "(II)I"⟩
abbrev cX0_putKinds : ByteArray := prog_2_method_12_code
def yX0_putKinds : MethodName := ⟨RX0, "putKinds", "(I)V"⟩
abbrev cX0_putKind : ByteArray := prog_2_method_13_code
def yX0_putKind : MethodName := ⟨RX0, "putKind", "(II)V"⟩
abbrev cX0_putKindIn : ByteArray := prog_2_method_14_code
def yX0_putKindIn : MethodName := ⟨RX0, "putKindIn", "(II)V"⟩
abbrev cX0_giveAhead : ByteArray := prog_2_method_15_code
def yX0_giveAhead : MethodName := ⟨RX0, "giveAhead", "(II)I"⟩
abbrev cX0_passNights : ByteArray := prog_2_method_16_code
def yX0_passNights : MethodName := ⟨RX0, "passNights", "(I)V"⟩
abbrev cX0_passNight : ByteArray := prog_2_method_17_code
def yX0_passNight : MethodName := ⟨RX0, "passNight", "()V"⟩
abbrev cX0_ask : ByteArray := prog_2_method_18_code
def yX0_ask : MethodName := ⟨RX0, "ask", "()V"⟩
abbrev cX0_give : ByteArray := prog_2_method_19_code
def yX0_give : MethodName := ⟨RX0, "give", "(II)V"⟩
abbrev cX0_burn : ByteArray := prog_2_method_20_code
def yX0_burn : MethodName := ⟨RX0, "burn", "(II)I"⟩
def RX1 : String := "FireLeave$Image"
def TX1 : u_T := fun k => match k with
  | 0 => ("FireLeave$Image", "city", "LFireLeave$City;", true)
  | 1 => ("FireLeave$Image", "seen", "LFireLeave$Sightings;", true)
  | _ => ("FireLeave$Image", "there", "Z", false)
def tyX1 : Nat → FieldType := fun k => match k with
  | 0 => .object "FireLeave$City"
  | 1 => .object "FireLeave$Sightings"
  | _ => .boolean
abbrev wsX10 : List Cond := u_ws RX1 TX1 3
theorem nmX1 : ∀ a, a < 3 → ∀ b, b < 3 → a ≠ b → (TX1 a).2.1 ≠ (TX1 b).2.1 := by decide +kernel
theorem tyX1_ok : ∀ k, k < 3 → parseFieldDescriptor (TX1 k).2.2.1 = some (tyX1 k) := by decide +kernel
abbrev cX1_init : ByteArray := prog_3_method_1_code
def yX1_init : MethodName := ⟨RX1, "<init>", "()V"⟩
def RX2 : String := "FireLeave$Sheet"
def TX2 : u_T := fun k => match k with
  | 0 => ("FireLeave$Sheet", "cells", "[I", true)
  | 1 => ("FireLeave$Sheet", "there", "Z", false)
  | 2 => ("FireLeave$Sheet", "lane", "I", false)
  | _ => ("FireLeave$Sheet", "size", "I", false)
def tyX2 : Nat → FieldType := fun k => match k with
  | 0 => .array .int
  | 1 => .boolean
  | 2 => .int
  | _ => .int
abbrev wsX20 : List Cond := u_ws RX2 TX2 4
theorem nmX2 : ∀ a, a < 4 → ∀ b, b < 4 → a ≠ b → (TX2 a).2.1 ≠ (TX2 b).2.1 := by decide +kernel
theorem tyX2_ok : ∀ k, k < 4 → parseFieldDescriptor (TX2 k).2.2.1 = some (tyX2 k) := by decide +kernel
abbrev cX2_init : ByteArray := prog_4_method_1_code
def yX2_init : MethodName := ⟨RX2, "<init>", "()V"⟩
abbrev cX2_renew : ByteArray := prog_4_method_2_code
def yX2_renew : MethodName := ⟨RX2, "renew", "(II)V"⟩
abbrev cX2_tearAt : ByteArray := prog_4_method_3_code
def yX2_tearAt : MethodName := ⟨RX2, "tearAt", "(II)I"⟩
abbrev cX2_tearOfPair : ByteArray := prog_4_method_4_code
def yX2_tearOfPair : MethodName := ⟨RX2, "tearOfPair", "(II)I"⟩
abbrev cX2_cellAt : ByteArray := prog_4_method_5_code
def yX2_cellAt : MethodName := ⟨RX2, "cellAt", "(I)I"⟩
abbrev cX2_put : ByteArray := prog_4_method_6_code
def yX2_put : MethodName := ⟨RX2, "put", "(II)V"⟩
def RX3 : String := "FireLeave$Sightings"
def TX3 : u_T := fun k => match k with
  | 0 => ("FireLeave$Sightings", "where", "[I", true)
  | 1 => ("FireLeave$Sightings", "nights", "[I", true)
  | 2 => ("FireLeave$Sightings", "worth", "[I", true)
  | _ => ("FireLeave$Sightings", "size", "I", false)
def tyX3 : Nat → FieldType := fun k => match k with
  | 0 => .array .int
  | 1 => .array .int
  | 2 => .array .int
  | _ => .int
abbrev wsX30 : List Cond := u_ws RX3 TX3 4
theorem nmX3 : ∀ a, a < 4 → ∀ b, b < 4 → a ≠ b → (TX3 a).2.1 ≠ (TX3 b).2.1 := by decide +kernel
theorem tyX3_ok : ∀ k, k < 4 → parseFieldDescriptor (TX3 k).2.2.1 = some (tyX3 k) := by decide +kernel
abbrev cX3_init : ByteArray := prog_5_method_1_code
def yX3_init : MethodName := ⟨RX3, "<init>", "()V"⟩
abbrev cX3_append : ByteArray := prog_5_method_2_code
def yX3_append : MethodName := ⟨RX3, "append", "(III)Z"⟩
abbrev cX3_becomeLike : ByteArray := prog_5_method_3_code
def yX3_becomeLike : MethodName := ⟨RX3, "becomeLike", "(LFireLeave$Sightings;)V"⟩
abbrev cX3_mostNights : ByteArray := prog_5_method_4_code
def yX3_mostNights : MethodName := ⟨RX3, "mostNights", "()I"⟩
abbrev cX3_agreesWith : ByteArray := prog_5_method_5_code
def yX3_agreesWith : MethodName := ⟨RX3, "agreesWith", "([I)Z"⟩
def RX4 : String := "FireLeave$Tape"
def TX4 : u_T := fun k => match k with
  | 0 => ("FireLeave$Tape", "bytes", "[B", true)
  | 1 => ("FireLeave$Tape", "next", "I", false)
  | 2 => ("FireLeave$Tape", "length", "I", false)
  | _ => ("FireLeave$Tape", "start", "I", false)
def tyX4 : Nat → FieldType := fun k => match k with
  | 0 => .array .byte
  | 1 => .int
  | 2 => .int
  | _ => .int
abbrev wsX40 : List Cond := u_ws RX4 TX4 4
theorem nmX4 : ∀ a, a < 4 → ∀ b, b < 4 → a ≠ b → (TX4 a).2.1 ≠ (TX4 b).2.1 := by decide +kernel
theorem tyX4_ok : ∀ k, k < 4 → parseFieldDescriptor (TX4 k).2.2.1 = some (tyX4 k) := by decide +kernel
abbrev cX4_init : ByteArray := prog_6_method_1_code
def yX4_init : MethodName := ⟨RX4, "<init>", "()V"⟩
abbrev cX4_append : ByteArray := prog_6_method_2_code
def yX4_append : MethodName := ⟨RX4, "append", "(I)Z"⟩
abbrev cX4_rewind : ByteArray := prog_6_method_3_code
def yX4_rewind : MethodName := ⟨RX4, "rewind", "()V"⟩
abbrev cX4_takeToken : ByteArray := prog_6_method_4_code
def yX4_takeToken : MethodName := ⟨RX4, "takeToken", "()I"⟩
abbrev cX4_signAt : ByteArray := prog_6_method_5_code
def yX4_signAt : MethodName := ⟨RX4, "signAt", "(I)I"⟩
abbrev cX4_nameIs : ByteArray := prog_6_method_6_code
def yX4_nameIs : MethodName := ⟨RX4, "nameIs", "(Ljava/lang/String;)Z"⟩
abbrev cX4_number : ByteArray := prog_6_method_7_code
def yX4_number : MethodName := ⟨RX4, "number", "()I"⟩
def RX5 : String := "FireLeave$TextReader"
def TX5 : u_T := fun k => match k with
  | 0 => ("FireLeave$TextReader", "tape", "LFireLeave$Tape;", true)
  | 1 => ("FireLeave$TextReader", "told", "LFireLeave$City;", true)
  | 2 => ("FireLeave$TextReader", "offerHouse", "[I", true)
  | 3 => ("FireLeave$TextReader", "offerMuch", "[I", true)
  | 4 => ("FireLeave$TextReader", "offers", "I", false)
  | 5 => ("FireLeave$TextReader", "fireTold", "Z", false)
  | 6 => ("FireLeave$TextReader", "lines", "I", false)
  | 7 => ("FireLeave$TextReader", "fault", "I", false)
  | _ => ("FireLeave$TextReader", "faultPlace", "I", false)
def tyX5 : Nat → FieldType := fun k => match k with
  | 0 => .object "FireLeave$Tape"
  | 1 => .object "FireLeave$City"
  | 2 => .array .int
  | 3 => .array .int
  | 4 => .int
  | 5 => .boolean
  | 6 => .int
  | 7 => .int
  | _ => .int
abbrev wsX50 : List Cond := u_ws RX5 TX5 9
theorem nmX5 : ∀ a, a < 9 → ∀ b, b < 9 → a ≠ b → (TX5 a).2.1 ≠ (TX5 b).2.1 := by decide +kernel
theorem tyX5_ok : ∀ k, k < 9 → parseFieldDescriptor (TX5 k).2.2.1 = some (tyX5 k) := by decide +kernel
abbrev cX5_init : ByteArray := prog_7_method_1_code
def yX5_init : MethodName := ⟨RX5, "<init>", "()V"⟩
abbrev cX5_takeText : ByteArray := prog_7_method_2_code
def yX5_takeText : MethodName := ⟨RX5, "takeText", "()V"⟩
abbrev cX5_fail : ByteArray := prog_7_method_3_code
def yX5_fail : MethodName := ⟨RX5, "fail", "(II)V"⟩
abbrev cX5_refuseToken : ByteArray := prog_7_method_4_code
def yX5_refuseToken : MethodName := ⟨RX5, "refuseToken", "(I)V"⟩
abbrev cX5_takeLine : ByteArray := prog_7_method_5_code
def yX5_takeLine : MethodName := ⟨RX5, "takeLine", "(I)V"⟩
abbrev cX5_takeStop : ByteArray := prog_7_method_6_code
def yX5_takeStop : MethodName := ⟨RX5, "takeStop", "()V"⟩
abbrev cX5_lineByName : ByteArray := prog_7_method_7_code
def yX5_lineByName : MethodName := ⟨RX5, "lineByName", "()I"⟩
abbrev cX5_takeNumber : ByteArray := prog_7_method_8_code
def yX5_takeNumber : MethodName := ⟨RX5, "takeNumber", "(II)I"⟩
abbrev cX5_takeHouse : ByteArray := prog_7_method_9_code
def yX5_takeHouse : MethodName := ⟨RX5, "takeHouse", "(I)V"⟩
abbrev cX5_takeFire : ByteArray := prog_7_method_10_code
def yX5_takeFire : MethodName := ⟨RX5, "takeFire", "()V"⟩
abbrev cX5_takeRain : ByteArray := prog_7_method_11_code
def yX5_takeRain : MethodName := ⟨RX5, "takeRain", "()V"⟩
abbrev cX5_takeOffer : ByteArray := prog_7_method_12_code
def yX5_takeOffer : MethodName := ⟨RX5, "takeOffer", "()V"⟩
abbrev cX5_checkHouses : ByteArray := prog_7_method_13_code
def yX5_checkHouses : MethodName := ⟨RX5, "checkHouses", "()V"⟩
abbrev cX5_makeOffers : ByteArray := prog_7_method_14_code
def yX5_makeOffers : MethodName := ⟨RX5, "makeOffers", "()V"⟩
def RX6 : String := "FireLeave"
def TX6 : u_T := fun k => match k with
  | 0 => ("FireLeave", "reader", "LFireLeave$TextReader;", true)
  | 1 => ("FireLeave", "now", "LFireLeave$City;", true)
  | 2 => ("FireLeave", "trial", "LFireLeave$City;", true)
  | 3 => ("FireLeave", "seen", "LFireLeave$Sightings;", true)
  | 4 => ("FireLeave", "images", "[LFireLeave$Image;", true)
  | 5 => ("FireLeave", "sheets", "[LFireLeave$Sheet;", true)
  | 6 => ("FireLeave", "left", "[I", true)
  | 7 => ("FireLeave", "tally", "[I", true)
  | 8 => ("FireLeave", "latestFault", "I", false)
  | _ => ("FireLeave", "latestTear", "I", false)
def tyX6 : Nat → FieldType := fun k => match k with
  | 0 => .object "FireLeave$TextReader"
  | 1 => .object "FireLeave$City"
  | 2 => .object "FireLeave$City"
  | 3 => .object "FireLeave$Sightings"
  | 4 => .array (.object "FireLeave$Image")
  | 5 => .array (.object "FireLeave$Sheet")
  | 6 => .array .int
  | 7 => .array .int
  | 8 => .int
  | _ => .int
abbrev wsX60 : List Cond := u_ws RX6 TX6 10
theorem nmX6 : ∀ a, a < 10 → ∀ b, b < 10 → a ≠ b → (TX6 a).2.1 ≠ (TX6 b).2.1 := by decide +kernel
theorem tyX6_ok : ∀ k, k < 10 → parseFieldDescriptor (TX6 k).2.2.1 = some (tyX6 k) := by decide +kernel
abbrev cX6_init : ByteArray := prog_1_method_1_code
def yX6_init : MethodName := ⟨RX6, "<init>", "()V"⟩
abbrev cX6_feed : ByteArray := prog_1_method_2_code
def yX6_feed : MethodName := ⟨RX6, "feed", "(I)I"⟩
abbrev cX6_end : ByteArray := prog_1_method_3_code
def yX6_end : MethodName := ⟨RX6, "end", "(I)I"⟩
abbrev cX6_text : ByteArray := prog_1_method_4_code
def yX6_text : MethodName := ⟨RX6, "text", "()I"⟩
abbrev cX6_fault : ByteArray := prog_1_method_5_code
def yX6_fault : MethodName := ⟨RX6, "fault", "()I"⟩
abbrev cX6_rule : ByteArray := prog_1_method_6_code
def yX6_rule : MethodName := ⟨RX6, "rule", "(I)I"⟩
abbrev cX6_house : ByteArray := prog_1_method_7_code
def yX6_house : MethodName := ⟨RX6, "house", "(II)I"⟩
abbrev cX6_alter : ByteArray := prog_1_method_8_code
def yX6_alter : MethodName := ⟨RX6, "alter", "(III)I"⟩
abbrev cX6_set : ByteArray := prog_1_method_9_code
def yX6_set : MethodName := ⟨RX6, "set", "(II)I"⟩
abbrev cX6_rain : ByteArray := prog_1_method_10_code
def yX6_rain : MethodName := ⟨RX6, "rain", "(IZ)I"⟩
abbrev cX6_offer : ByteArray := prog_1_method_11_code
def yX6_offer : MethodName := ⟨RX6, "offer", "(II)I"⟩
abbrev cX6_go : ByteArray := prog_1_method_12_code
def yX6_go : MethodName := ⟨RX6, "go", "(I)I"⟩
abbrev cX6_runs : ByteArray := prog_1_method_13_code
def yX6_runs : MethodName := ⟨RX6, "runs", "(II)I"⟩
abbrev cX6_ahead : ByteArray := prog_1_method_14_code
def yX6_ahead : MethodName := ⟨RX6, "ahead", "(II)I"⟩
abbrev cX6_bare : ByteArray := prog_1_method_15_code
def yX6_bare : MethodName := ⟨RX6, "bare", "(I)I"⟩
abbrev cX6_best : ByteArray := prog_1_method_16_code
def yX6_best : MethodName := ⟨RX6, "best", "(II)I"⟩
abbrev cX6_change : ByteArray := prog_1_method_17_code
def yX6_change : MethodName := ⟨RX6, "change", "(II)I"⟩
abbrev cX6_cooks : ByteArray := prog_1_method_18_code
def yX6_cooks : MethodName := ⟨RX6, "cooks", "(II)I"⟩
abbrev cX6_appease : ByteArray := prog_1_method_19_code
def yX6_appease : MethodName := ⟨RX6, "appease", "(II)I"⟩
abbrev cX6_pray : ByteArray := prog_1_method_20_code
def yX6_pray : MethodName := ⟨RX6, "pray", "(I)I"⟩
abbrev cX6_value : ByteArray := prog_1_method_21_code
def yX6_value : MethodName := ⟨RX6, "value", "(II)I"⟩
abbrev cX6_share : ByteArray := prog_1_method_22_code
def yX6_share : MethodName := ⟨RX6, "share", "(III)J"⟩
abbrev cX6_luck : ByteArray := prog_1_method_23_code
def yX6_luck : MethodName := ⟨RX6, "luck", "(III)J"⟩
abbrev cX6_mean : ByteArray := prog_1_method_24_code
def yX6_mean : MethodName := ⟨RX6, "mean", "(III)J"⟩
abbrev cX6_see : ByteArray := prog_1_method_25_code
def yX6_see : MethodName := ⟨RX6, "see", "(III)I"⟩
abbrev cX6_forget : ByteArray := prog_1_method_26_code
def yX6_forget : MethodName := ⟨RX6, "forget", "(I)I"⟩
abbrev cX6_fits : ByteArray := prog_1_method_27_code
def yX6_fits : MethodName := ⟨RX6, "fits", "(I)I"⟩
abbrev cX6_look : ByteArray := prog_1_method_28_code
def yX6_look : MethodName := ⟨RX6, "look", "(I)I"⟩
abbrev cX6_drift : ByteArray := prog_1_method_29_code
def yX6_drift : MethodName := ⟨RX6, "drift", "(III)I"⟩
abbrev cX6_keep : ByteArray := prog_1_method_30_code
def yX6_keep : MethodName := ⟨RX6, "keep", "(I)I"⟩
abbrev cX6_back : ByteArray := prog_1_method_31_code
def yX6_back : MethodName := ⟨RX6, "back", "(I)I"⟩
abbrev cX6_sheet : ByteArray := prog_1_method_32_code
def yX6_sheet : MethodName := ⟨RX6, "sheet", "(III)I"⟩
abbrev cX6_lay : ByteArray := prog_1_method_33_code
def yX6_lay : MethodName := ⟨RX6, "lay", "(III)I"⟩
abbrev cX6_read : ByteArray := prog_1_method_34_code
def yX6_read : MethodName := ⟨RX6, "read", "(IIII)I"⟩
abbrev cX6_torn : ByteArray := prog_1_method_35_code
def yX6_torn : MethodName := ⟨RX6, "torn", "()I"⟩
abbrev cX6_count : ByteArray := prog_1_method_36_code
def yX6_count : MethodName := ⟨RX6, "count", "(I)I"⟩
abbrev cX6_outside : ByteArray := prog_1_method_37_code
def yX6_outside : MethodName := ⟨RX6, "outside", "(III)Z"⟩
abbrev cX6_startTrial : ByteArray := prog_1_method_38_code
def yX6_startTrial : MethodName := ⟨RX6, "startTrial", "()V"⟩
abbrev cX6_lossAsItIs : ByteArray := prog_1_method_39_code
def yX6_lossAsItIs : MethodName := ⟨RX6, "lossAsItIs", "(I)I"⟩
abbrev cX6_lossByKinds : ByteArray := prog_1_method_40_code
def yX6_lossByKinds : MethodName := ⟨RX6, "lossByKinds", "(II)I"⟩
abbrev cX6_playWith : ByteArray := prog_1_method_41_code
def yX6_playWith : MethodName := ⟨RX6, "playWith", "(III)LFireLeave$City;"⟩
abbrev cX6_oddsOfOut : ByteArray := prog_1_method_42_code
def yX6_oddsOfOut : MethodName := ⟨RX6, "oddsOfOut", "(II)J"⟩
abbrev cX6_power : ByteArray := prog_1_method_43_code
def yX6_power : MethodName := ⟨RX6, "power", "(II)J"⟩
abbrev cX6_factorial : ByteArray := prog_1_method_44_code
def yX6_factorial : MethodName := ⟨RX6, "factorial", "(I)J"⟩
abbrev cX6_partOfFraction : ByteArray := prog_1_method_45_code
def yX6_partOfFraction : MethodName := ⟨RX6, "partOfFraction", "(JJI)J"⟩
abbrev cX6_commonDivisor : ByteArray := prog_1_method_46_code
def yX6_commonDivisor : MethodName := ⟨RX6, "commonDivisor", "(JJ)J"⟩
abbrev cX6_slot : ByteArray := prog_1_method_47_code
def yX6_slot : MethodName := ⟨RX6, "slot", "(II)I"⟩
abbrev cX6_tryKinds : ByteArray := prog_1_method_48_code
def yX6_tryKinds : MethodName := ⟨RX6, "tryKinds", "(II)V"⟩
abbrev cX6_tallyFitting : ByteArray := prog_1_method_49_code
def yX6_tallyFitting : MethodName := ⟨RX6, "tallyFitting", "()I"⟩
abbrev cX6_mostInRow : ByteArray := prog_1_method_50_code
def yX6_mostInRow : MethodName := ⟨RX6, "mostInRow", "(I)I"⟩
abbrev cX6_imagesKept : ByteArray := prog_1_method_51_code
def yX6_imagesKept : MethodName := ⟨RX6, "imagesKept", "()I"⟩
def RX7 : String := "FireLeaveModel"
def TX7 : u_T := fun k => match k with
  | 0 => ("FireLeaveModel", "st", "[I", true)
  | 1 => ("FireLeaveModel", "now", "[I", true)
  | 2 => ("FireLeaveModel", "isKept", "[Z", true)
  | 3 => ("FireLeaveModel", "houses", "I", false)
  | 4 => ("FireLeaveModel", "draft", "[I", true)
  | 5 => ("FireLeaveModel", "dHouses", "I", false)
  | 6 => ("FireLeaveModel", "hasFire", "Z", false)
  | 7 => ("FireLeaveModel", "offerMany", "I", false)
  | 8 => ("FireLeaveModel", "offered", "[I", true)
  | 9 => ("FireLeaveModel", "highest", "I", false)
  | 10 => ("FireLeaveModel", "tape", "[I", true)
  | 11 => ("FireLeaveModel", "taped", "I", false)
  | 12 => ("FireLeaveModel", "pos", "I", false)
  | 13 => ("FireLeaveModel", "from", "I", false)
  | 14 => ("FireLeaveModel", "sort", "I", false)
  | 15 => ("FireLeaveModel", "value", "I", false)
  | 16 => ("FireLeaveModel", "fault", "I", false)
  | 17 => ("FireLeaveModel", "wrongAt", "I", false)
  | 18 => ("FireLeaveModel", "safeSum", "J", false)
  | 19 => ("FireLeaveModel", "lossSum", "J", false)
  | 20 => ("FireLeaveModel", "allWays", "J", false)
  | 21 => ("FireLeaveModel", "left", "[I", true)
  | 22 => ("FireLeaveModel", "ways", "[I", true)
  | 23 => ("FireLeaveModel", "lanes", "[I", true)
  | 24 => ("FireLeaveModel", "sizes", "[I", true)
  | 25 => ("FireLeaveModel", "cells", "[I", true)
  | 26 => ("FireLeaveModel", "torn", "I", false)
  | _ => ("FireLeaveModel", "had", "[I", true)
def tyX7 : Nat → FieldType := fun k => match k with
  | 0 => .array .int
  | 1 => .array .int
  | 2 => .array .boolean
  | 3 => .int
  | 4 => .array .int
  | 5 => .int
  | 6 => .boolean
  | 7 => .int
  | 8 => .array .int
  | 9 => .int
  | 10 => .array .int
  | 11 => .int
  | 12 => .int
  | 13 => .int
  | 14 => .int
  | 15 => .int
  | 16 => .int
  | 17 => .int
  | 18 => .long
  | 19 => .long
  | 20 => .long
  | 21 => .array .int
  | 22 => .array .int
  | 23 => .array .int
  | 24 => .array .int
  | 25 => .array .int
  | 26 => .int
  | _ => .array .int
abbrev wsX70 : List Cond := u_ws RX7 TX7 28
theorem nmX7 : ∀ a, a < 28 → ∀ b, b < 28 → a ≠ b → (TX7 a).2.1 ≠ (TX7 b).2.1 := by decide +kernel
theorem tyX7_ok : ∀ k, k < 28 → parseFieldDescriptor (TX7 k).2.2.1 = some (tyX7 k) := by decide +kernel
abbrev cX7_init : ByteArray := prog_9_method_1_code
def yX7_init : MethodName := ⟨RX7, "<init>", "()V"⟩
abbrev cX7_in : ByteArray := prog_9_method_3_code
def yX7_in : MethodName := ⟨RX7, "in", "(JJJ)Z"⟩
abbrev cX7_flag : ByteArray := prog_9_method_4_code
def yX7_flag : MethodName := ⟨RX7, "flag", "(Z)I"⟩
abbrev cX7_firstDraft : ByteArray := prog_9_method_5_code
def yX7_firstDraft : MethodName := ⟨RX7, "firstDraft", "()V"⟩
abbrev cX7_keepDraft : ByteArray := prog_9_method_6_code
def yX7_keepDraft : MethodName := ⟨RX7, "keepDraft", "()V"⟩
abbrev cX7_feed : ByteArray := prog_9_method_7_code
def yX7_feed : MethodName := ⟨RX7, "feed", "(I)I"⟩
abbrev cX7_end : ByteArray := prog_9_method_8_code
def yX7_end : MethodName := ⟨RX7, "end", "(I)I"⟩
abbrev cX7_needs : ByteArray := prog_9_method_9_code
def yX7_needs : MethodName := ⟨RX7, "needs", "(ZI)V"⟩
abbrev cX7_byteAt : ByteArray := prog_9_method_10_code
def yX7_byteAt : MethodName := ⟨RX7, "byteAt", "(I)I"⟩
abbrev cX7_is : ByteArray := prog_9_method_11_code
def yX7_is : MethodName := ⟨RX7, "is", "(IIII)Z"⟩
abbrev cX7_ends : ByteArray := prog_9_method_12_code
def yX7_ends : MethodName := ⟨RX7, "ends", "(III)Z"⟩
abbrev cX7_lineNow : ByteArray := prog_9_method_13_code
def yX7_lineNow : MethodName := ⟨RX7, "lineNow", "()I"⟩
abbrev cX7_next : ByteArray := prog_9_method_14_code
def yX7_next : MethodName := ⟨RX7, "next", "()V"⟩
abbrev cX7_looked : ByteArray := prog_9_method_15_code
def yX7_looked : MethodName := ⟨RX7, "looked", "(II)I"⟩
abbrev cX7_readNumber : ByteArray := prog_9_method_16_code
def yX7_readNumber : MethodName := ⟨RX7, "readNumber", "(II)I"⟩
abbrev cX7_readHouse : ByteArray := prog_9_method_17_code
def yX7_readHouse : MethodName := ⟨RX7, "readHouse", "()I"⟩
abbrev cX7_readRain : ByteArray := prog_9_method_18_code
def yX7_readRain : MethodName := ⟨RX7, "readRain", "()V"⟩
abbrev cX7_readLineOf : ByteArray := prog_9_method_19_code
def yX7_readLineOf : MethodName := ⟨RX7, "readLineOf", "(I)V"⟩
abbrev cX7_readLine : ByteArray := prog_9_method_20_code
def yX7_readLine : MethodName := ⟨RX7, "readLine", "()V"⟩
abbrev cX7_offersCome : ByteArray := prog_9_method_21_code
def yX7_offersCome : MethodName := ⟨RX7, "offersCome", "()V"⟩
abbrev cX7_text : ByteArray := prog_9_method_22_code
def yX7_text : MethodName := ⟨RX7, "text", "()I"⟩
abbrev cX7_fault : ByteArray := prog_9_method_23_code
def yX7_fault : MethodName := ⟨RX7, "fault", "()I"⟩
abbrev cX7_isHouse : ByteArray := prog_9_method_24_code
def yX7_isHouse : MethodName := ⟨RX7, "isHouse", "(I)Z"⟩
abbrev cX7_isPart : ByteArray := prog_9_method_25_code
def yX7_isPart : MethodName := ⟨RX7, "isPart", "(I)Z"⟩
abbrev cX7_starts : ByteArray := prog_9_method_26_code
def yX7_starts : MethodName := ⟨RX7, "starts", "()V"⟩
abbrev cX7_settles : ByteArray := prog_9_method_27_code
def yX7_settles : MethodName := ⟨RX7, "settles", "()V"⟩
abbrev cX7_lesser : ByteArray := prog_9_method_28_code
def yX7_lesser : MethodName := ⟨RX7, "lesser", "(II)I"⟩
abbrev cX7_burns : ByteArray := prog_9_method_29_code
def yX7_burns : MethodName := ⟨RX7, "burns", "(II)I"⟩
abbrev cX7_gives : ByteArray := prog_9_method_30_code
def yX7_gives : MethodName := ⟨RX7, "gives", "(II)V"⟩
abbrev cX7_asks : ByteArray := prog_9_method_31_code
def yX7_asks : MethodName := ⟨RX7, "asks", "()V"⟩
abbrev cX7_nightGoes : ByteArray := prog_9_method_32_code
def yX7_nightGoes : MethodName := ⟨RX7, "nightGoes", "()V"⟩
abbrev cX7_nightsGo : ByteArray := prog_9_method_33_code
def yX7_nightsGo : MethodName := ⟨RX7, "nightsGo", "(I)V"⟩
abbrev cX7_lossOf : ByteArray := prog_9_method_34_code
def yX7_lossOf : MethodName := ⟨RX7, "lossOf", "(I)I"⟩
abbrev cX7_allOf : ByteArray := prog_9_method_35_code
def yX7_allOf : MethodName := ⟨RX7, "allOf", "(I)I"⟩
abbrev cX7_rule : ByteArray := prog_9_method_36_code
def yX7_rule : MethodName := ⟨RX7, "rule", "(I)I"⟩
abbrev cX7_house : ByteArray := prog_9_method_37_code
def yX7_house : MethodName := ⟨RX7, "house", "(II)I"⟩
abbrev cX7_becomes : ByteArray := prog_9_method_38_code
def yX7_becomes : MethodName := ⟨RX7, "becomes", "(II)I"⟩
abbrev cX7_alter : ByteArray := prog_9_method_39_code
def yX7_alter : MethodName := ⟨RX7, "alter", "(III)I"⟩
abbrev cX7_set : ByteArray := prog_9_method_40_code
def yX7_set : MethodName := ⟨RX7, "set", "(II)I"⟩
abbrev cX7_rain : ByteArray := prog_9_method_41_code
def yX7_rain : MethodName := ⟨RX7, "rain", "(IZ)I"⟩
abbrev cX7_offer : ByteArray := prog_9_method_42_code
def yX7_offer : MethodName := ⟨RX7, "offer", "(II)I"⟩
abbrev cX7_go : ByteArray := prog_9_method_43_code
def yX7_go : MethodName := ⟨RX7, "go", "(I)I"⟩
abbrev cX7_runs : ByteArray := prog_9_method_44_code
def yX7_runs : MethodName := ⟨RX7, "runs", "(II)I"⟩
abbrev cX7_ahead : ByteArray := prog_9_method_45_code
def yX7_ahead : MethodName := ⟨RX7, "ahead", "(II)I"⟩
abbrev cX7_bare : ByteArray := prog_9_method_46_code
def yX7_bare : MethodName := ⟨RX7, "bare", "(I)I"⟩
abbrev cX7_numbers : ByteArray := prog_9_method_47_code
def yX7_numbers : MethodName := ⟨RX7, "numbers", "()I"⟩
abbrev cX7_startsBy : ByteArray := prog_9_method_48_code
def yX7_startsBy : MethodName := ⟨RX7, "startsBy", "(I)V"⟩
abbrev cX7_best : ByteArray := prog_9_method_49_code
def yX7_best : MethodName := ⟨RX7, "best", "(II)I"⟩
abbrev cX7_change : ByteArray := prog_9_method_50_code
def yX7_change : MethodName := ⟨RX7, "change", "(II)I"⟩
abbrev cX7_bitsOf : ByteArray := prog_9_method_51_code
def yX7_bitsOf : MethodName := ⟨RX7, "bitsOf", "(I)I"⟩
abbrev cX7_startsWithCooks : ByteArray := prog_9_method_52_code
def yX7_startsWithCooks : MethodName := ⟨RX7, "startsWithCooks", "(I)V"⟩
abbrev cX7_cooks : ByteArray := prog_9_method_53_code
def yX7_cooks : MethodName := ⟨RX7, "cooks", "(II)I"⟩
abbrev cX7_appease : ByteArray := prog_9_method_54_code
def yX7_appease : MethodName := ⟨RX7, "appease", "(II)I"⟩
abbrev cX7_pray : ByteArray := prog_9_method_55_code
def yX7_pray : MethodName := ⟨RX7, "pray", "(I)I"⟩
abbrev cX7_valueOf : ByteArray := prog_9_method_56_code
def yX7_valueOf : MethodName := ⟨RX7, "valueOf", "(II)I"⟩
abbrev cX7_value : ByteArray := prog_9_method_57_code
def yX7_value : MethodName := ⟨RX7, "value", "(II)I"⟩
abbrev cX7_common : ByteArray := prog_9_method_58_code
def yX7_common : MethodName := ⟨RX7, "common", "(JJ)J"⟩
abbrev cX7_told : ByteArray := prog_9_method_59_code
def yX7_told : MethodName := ⟨RX7, "told", "(JJI)J"⟩
abbrev cX7_orders : ByteArray := prog_9_method_60_code
def yX7_orders : MethodName := ⟨RX7, "orders", "(I)J"⟩
abbrev cX7_share : ByteArray := prog_9_method_61_code
def yX7_share : MethodName := ⟨RX7, "share", "(III)J"⟩
abbrev cX7_findOdds : ByteArray := prog_9_method_62_code
def yX7_findOdds : MethodName := ⟨RX7, "findOdds", "(II)V"⟩
abbrev cX7_luck : ByteArray := prog_9_method_63_code
def yX7_luck : MethodName := ⟨RX7, "luck", "(III)J"⟩
abbrev cX7_mean : ByteArray := prog_9_method_64_code
def yX7_mean : MethodName := ⟨RX7, "mean", "(III)J"⟩
abbrev cX7_see : ByteArray := prog_9_method_65_code
def yX7_see : MethodName := ⟨RX7, "see", "(III)I"⟩
abbrev cX7_forget : ByteArray := prog_9_method_66_code
def yX7_forget : MethodName := ⟨RX7, "forget", "(I)I"⟩
abbrev cX7_isFit : ByteArray := prog_9_method_67_code
def yX7_isFit : MethodName := ⟨RX7, "isFit", "(I)Z"⟩
abbrev cX7_fits : ByteArray := prog_9_method_68_code
def yX7_fits : MethodName := ⟨RX7, "fits", "(I)I"⟩
abbrev cX7_look : ByteArray := prog_9_method_69_code
def yX7_look : MethodName := ⟨RX7, "look", "(I)I"⟩
abbrev cX7_drift : ByteArray := prog_9_method_70_code
def yX7_drift : MethodName := ⟨RX7, "drift", "(III)I"⟩
abbrev cX7_copies : ByteArray := prog_9_method_71_code
def yX7_copies : MethodName := ⟨RX7, "copies", "(II)V"⟩
abbrev cX7_keep : ByteArray := prog_9_method_72_code
def yX7_keep : MethodName := ⟨RX7, "keep", "(I)I"⟩
abbrev cX7_back : ByteArray := prog_9_method_73_code
def yX7_back : MethodName := ⟨RX7, "back", "(I)I"⟩
abbrev cX7_isSheet : ByteArray := prog_9_method_74_code
def yX7_isSheet : MethodName := ⟨RX7, "isSheet", "(II)Z"⟩
abbrev cX7_sheet : ByteArray := prog_9_method_75_code
def yX7_sheet : MethodName := ⟨RX7, "sheet", "(III)I"⟩
abbrev cX7_lay : ByteArray := prog_9_method_76_code
def yX7_lay : MethodName := ⟨RX7, "lay", "(III)I"⟩
abbrev cX7_read : ByteArray := prog_9_method_77_code
def yX7_read : MethodName := ⟨RX7, "read", "(IIII)I"⟩
abbrev cX7_torn : ByteArray := prog_9_method_78_code
def yX7_torn : MethodName := ⟨RX7, "torn", "()I"⟩
abbrev cX7_count : ByteArray := prog_9_method_79_code
def yX7_count : MethodName := ⟨RX7, "count", "(I)I"⟩
def RJx145de : String := "java/io/Serializable"
def RJx9f9b0 : String := "java/lang/CharSequence"
def RJxb160c : String := "java/lang/Comparable"
def RJ6 : String := "java/lang/Integer"
abbrev cJ6_bitCount_0f7a4 : ByteArray := prog_10_method_49_code
def yJ6_bitCount_0f7a4 : MethodName := ⟨RJ6, "bitCount", "(I)I"⟩
def RJ9 : String := "java/lang/Math"
abbrev cJ9_abs_067f4 : ByteArray := prog_11_method_61_code
def yJ9_abs_067f4 : MethodName := ⟨RJ9, "abs", "(J)J"⟩
abbrev cJ9_max_7cf53 : ByteArray := prog_11_method_65_code
def yJ9_max_7cf53 : MethodName := ⟨RJ9, "max", "(II)I"⟩
abbrev cJ9_min_7cf53 : ByteArray := prog_11_method_69_code
def yJ9_min_7cf53 : MethodName := ⟨RJ9, "min", "(II)I"⟩
def RJ0 : String := "java/lang/String"
abbrev cJ0_length_8abf5 : ByteArray := prog_12_method_54_code
def yJ0_length_8abf5 : MethodName := ⟨RJ0, "length", "()I"⟩
abbrev cJ0_charAt_5068e : ByteArray := prog_12_method_56_code
def yJ0_charAt_5068e : MethodName := ⟨RJ0, "charAt", "(I)C"⟩
abbrev cJ0_coder_7d493 : ByteArray := prog_12_method_152_code
def yJ0_coder_7d493 : MethodName := ⟨RJ0, "coder", "()B"⟩
abbrev cJ0_isLatin1_aae02 : ByteArray := prog_12_method_154_code
def yJ0_isLatin1_aae02 : MethodName := ⟨RJ0, "isLatin1", "()Z"⟩
abbrev cJ0_checkIndex_df160 : ByteArray := prog_12_method_155_code
def yJ0_checkIndex_df160 : MethodName := ⟨RJ0, "checkIndex", "(II)V"⟩
def RJ1 : String := "java/lang/StringLatin1"
abbrev cJ1_charAt_3b067 : ByteArray := prog_13_method_2_code
def yJ1_charAt_3b067 : MethodName := ⟨RJ1, "charAt", "([BI)C"⟩
def RJ2 : String := "java/lang/StringUTF16"
abbrev cJ2_getChar_3b067 : ByteArray := prog_14_method_5_code
def yJ2_getChar_3b067 : MethodName := ⟨RJ2, "getChar", "([BI)C"⟩
abbrev cJ2_length_9d52b : ByteArray := prog_14_method_6_code
def yJ2_length_9d52b : MethodName := ⟨RJ2, "length", "([B)I"⟩
abbrev cJ2_charAt_3b067 : ByteArray := prog_14_method_83_code
def yJ2_charAt_3b067 : MethodName := ⟨RJ2, "charAt", "([BI)C"⟩
abbrev cJ2_checkIndex_2214a : ByteArray := prog_14_method_91_code
def yJ2_checkIndex_2214a : MethodName := ⟨RJ2, "checkIndex", "(I[B)V"⟩
def RJ10 : String := "java/lang/System"
def RJxfd54e : String := "java/lang/constant/Constable"
def RJx3cf43 : String := "java/lang/constant/ConstantDesc"
def RJ7 : String := "java/util/Arrays"
abbrev cJ7_fill_53178 : ByteArray := prog_16_method_103_code
def yJ7_fill_53178 : MethodName := ⟨RJ7, "fill", "([II)V"⟩
def RJ3 : String := "jdk/internal/util/Preconditions"
abbrev cJ3_checkIndex_8e157 : ByteArray := prog_17_method_11_code
def yJ3_checkIndex_8e157 : MethodName := ⟨RJ3, "checkIndex", "(IILjava/util/function/BiFunction;)I"⟩
def RL : String := "FireLeaveLaw"
abbrev cL_law : ByteArray := code
def yL_law : MethodName := ⟨RL, "law", "([I)Z"⟩
abbrev vwCl : List vw_C := [(RX0, TX0, 12), (RX1, TX1, 3), (RX2, TX2, 4), (RX3, TX3, 4), (RX4, TX4, 4), (RX5, TX5, 9), (RX6, TX6, 10), (RX7, TX7, 28)]
end
section
theorem dX0_init_0 : decode cX0_init 0 = .ok (.aload_n 0, 1) := by decide +kernel
theorem dX0_init_1 : decode cX0_init 1 = .ok (.invokespecial 3, 3) := by decide +kernel
theorem dX0_init_4 : decode cX0_init 4 = .ok (.aload_n 0, 1) := by decide +kernel
theorem dX0_init_5 : decode cX0_init 5 = .ok (.iconst 5, 1) := by decide +kernel
theorem dX0_init_6 : decode cX0_init 6 = .ok (.newarray .int, 2) := by decide +kernel
theorem dX0_init_8 : decode cX0_init 8 = .ok (.putfield 9, 3) := by decide +kernel
theorem dX0_init_11 : decode cX0_init 11 = .ok (.aload_n 0, 1) := by decide +kernel
theorem dX0_init_12 : decode cX0_init 12 = .ok (.iconst 5, 1) := by decide +kernel
theorem dX0_init_13 : decode cX0_init 13 = .ok (.newarray .int, 2) := by decide +kernel
theorem dX0_init_15 : decode cX0_init 15 = .ok (.putfield 15, 3) := by decide +kernel
theorem dX0_init_18 : decode cX0_init 18 = .ok (.aload_n 0, 1) := by decide +kernel
theorem dX0_init_19 : decode cX0_init 19 = .ok (.iconst 5, 1) := by decide +kernel
theorem dX0_init_20 : decode cX0_init 20 = .ok (.newarray .int, 2) := by decide +kernel
theorem dX0_init_22 : decode cX0_init 22 = .ok (.putfield 18, 3) := by decide +kernel
theorem dX0_init_25 : decode cX0_init 25 = .ok (.aload_n 0, 1) := by decide +kernel
theorem dX0_init_26 : decode cX0_init 26 = .ok (.iconst 5, 1) := by decide +kernel
theorem dX0_init_27 : decode cX0_init 27 = .ok (.newarray .int, 2) := by decide +kernel
theorem dX0_init_29 : decode cX0_init 29 = .ok (.putfield 21, 3) := by decide +kernel
theorem dX0_init_32 : decode cX0_init 32 = .ok (.aload_n 0, 1) := by decide +kernel
theorem dX0_init_33 : decode cX0_init 33 = .ok (.iconst 3, 1) := by decide +kernel
theorem dX0_init_34 : decode cX0_init 34 = .ok (.putfield 24, 3) := by decide +kernel
theorem dX0_init_37 : decode cX0_init 37 = .ok (.return_, 1) := by decide +kernel
theorem dX0_clear_0 : decode cX0_clear 0 = .ok (.aload_n 0, 1) := by decide +kernel
theorem dX0_clear_1 : decode cX0_clear 1 = .ok (.iconst 0, 1) := by decide +kernel
theorem dX0_clear_2 : decode cX0_clear 2 = .ok (.putfield 28, 3) := by decide +kernel
theorem dX0_clear_5 : decode cX0_clear 5 = .ok (.aload_n 0, 1) := by decide +kernel
theorem dX0_clear_6 : decode cX0_clear 6 = .ok (.iconst 0, 1) := by decide +kernel
theorem dX0_clear_7 : decode cX0_clear 7 = .ok (.putfield 31, 3) := by decide +kernel
theorem dX0_clear_10 : decode cX0_clear 10 = .ok (.aload_n 0, 1) := by decide +kernel
theorem dX0_clear_11 : decode cX0_clear 11 = .ok (.iconst 3, 1) := by decide +kernel
theorem dX0_clear_12 : decode cX0_clear 12 = .ok (.putfield 24, 3) := by decide +kernel
theorem dX0_clear_15 : decode cX0_clear 15 = .ok (.aload_n 0, 1) := by decide +kernel
theorem dX0_clear_16 : decode cX0_clear 16 = .ok (.iconst 0, 1) := by decide +kernel
theorem dX0_clear_17 : decode cX0_clear 17 = .ok (.putfield 34, 3) := by decide +kernel
theorem dX0_clear_20 : decode cX0_clear 20 = .ok (.aload_n 0, 1) := by decide +kernel
theorem dX0_clear_21 : decode cX0_clear 21 = .ok (.iconst 0, 1) := by decide +kernel
theorem dX0_clear_22 : decode cX0_clear 22 = .ok (.putfield 37, 3) := by decide +kernel
theorem dX0_clear_25 : decode cX0_clear 25 = .ok (.aload_n 0, 1) := by decide +kernel
theorem dX0_clear_26 : decode cX0_clear 26 = .ok (.iconst 0, 1) := by decide +kernel
theorem dX0_clear_27 : decode cX0_clear 27 = .ok (.putfield 40, 3) := by decide +kernel
theorem dX0_clear_30 : decode cX0_clear 30 = .ok (.aload_n 0, 1) := by decide +kernel
theorem dX0_clear_31 : decode cX0_clear 31 = .ok (.iconst 0, 1) := by decide +kernel
theorem dX0_clear_32 : decode cX0_clear 32 = .ok (.putfield 43, 3) := by decide +kernel
theorem dX0_clear_35 : decode cX0_clear 35 = .ok (.aload_n 0, 1) := by decide +kernel
theorem dX0_clear_36 : decode cX0_clear 36 = .ok (.iconst 0, 1) := by decide +kernel
theorem dX0_clear_37 : decode cX0_clear 37 = .ok (.putfield 46, 3) := by decide +kernel
theorem dX0_clear_40 : decode cX0_clear 40 = .ok (.return_, 1) := by decide +kernel
theorem dX0_becomeLike_0 : decode cX0_becomeLike 0 = .ok (.aload_n 1, 1) := by decide +kernel
theorem dX0_becomeLike_1 : decode cX0_becomeLike 1 = .ok (.getfield 9, 3) := by decide +kernel
theorem dX0_becomeLike_4 : decode cX0_becomeLike 4 = .ok (.iconst 0, 1) := by decide +kernel
theorem dX0_becomeLike_5 : decode cX0_becomeLike 5 = .ok (.aload_n 0, 1) := by decide +kernel
theorem dX0_becomeLike_6 : decode cX0_becomeLike 6 = .ok (.getfield 9, 3) := by decide +kernel
theorem dX0_becomeLike_9 : decode cX0_becomeLike 9 = .ok (.iconst 0, 1) := by decide +kernel
theorem dX0_becomeLike_10 : decode cX0_becomeLike 10 = .ok (.iconst 5, 1) := by decide +kernel
theorem dX0_becomeLike_11 : decode cX0_becomeLike 11 = .ok (.invokestatic 49, 3) := by decide +kernel
theorem dX0_becomeLike_14 : decode cX0_becomeLike 14 = .ok (.aload_n 1, 1) := by decide +kernel
theorem dX0_becomeLike_15 : decode cX0_becomeLike 15 = .ok (.getfield 15, 3) := by decide +kernel
theorem dX0_becomeLike_18 : decode cX0_becomeLike 18 = .ok (.iconst 0, 1) := by decide +kernel
theorem dX0_becomeLike_19 : decode cX0_becomeLike 19 = .ok (.aload_n 0, 1) := by decide +kernel
theorem dX0_becomeLike_20 : decode cX0_becomeLike 20 = .ok (.getfield 15, 3) := by decide +kernel
theorem dX0_becomeLike_23 : decode cX0_becomeLike 23 = .ok (.iconst 0, 1) := by decide +kernel
theorem dX0_becomeLike_24 : decode cX0_becomeLike 24 = .ok (.iconst 5, 1) := by decide +kernel
theorem dX0_becomeLike_25 : decode cX0_becomeLike 25 = .ok (.invokestatic 49, 3) := by decide +kernel
theorem dX0_becomeLike_28 : decode cX0_becomeLike 28 = .ok (.aload_n 1, 1) := by decide +kernel
theorem dX0_becomeLike_29 : decode cX0_becomeLike 29 = .ok (.getfield 18, 3) := by decide +kernel
theorem dX0_becomeLike_32 : decode cX0_becomeLike 32 = .ok (.iconst 0, 1) := by decide +kernel
theorem dX0_becomeLike_33 : decode cX0_becomeLike 33 = .ok (.aload_n 0, 1) := by decide +kernel
theorem dX0_becomeLike_34 : decode cX0_becomeLike 34 = .ok (.getfield 18, 3) := by decide +kernel
theorem dX0_becomeLike_37 : decode cX0_becomeLike 37 = .ok (.iconst 0, 1) := by decide +kernel
theorem dX0_becomeLike_38 : decode cX0_becomeLike 38 = .ok (.iconst 5, 1) := by decide +kernel
theorem dX0_becomeLike_39 : decode cX0_becomeLike 39 = .ok (.invokestatic 49, 3) := by decide +kernel
theorem dX0_becomeLike_42 : decode cX0_becomeLike 42 = .ok (.aload_n 0, 1) := by decide +kernel
theorem dX0_becomeLike_43 : decode cX0_becomeLike 43 = .ok (.aload_n 1, 1) := by decide +kernel
theorem dX0_becomeLike_44 : decode cX0_becomeLike 44 = .ok (.getfield 28, 3) := by decide +kernel
theorem dX0_becomeLike_47 : decode cX0_becomeLike 47 = .ok (.putfield 28, 3) := by decide +kernel
theorem dX0_becomeLike_50 : decode cX0_becomeLike 50 = .ok (.aload_n 0, 1) := by decide +kernel
theorem dX0_becomeLike_51 : decode cX0_becomeLike 51 = .ok (.aload_n 1, 1) := by decide +kernel
theorem dX0_becomeLike_52 : decode cX0_becomeLike 52 = .ok (.getfield 31, 3) := by decide +kernel
theorem dX0_becomeLike_55 : decode cX0_becomeLike 55 = .ok (.putfield 31, 3) := by decide +kernel
theorem dX0_becomeLike_58 : decode cX0_becomeLike 58 = .ok (.aload_n 0, 1) := by decide +kernel
theorem dX0_becomeLike_59 : decode cX0_becomeLike 59 = .ok (.aload_n 1, 1) := by decide +kernel
theorem dX0_becomeLike_60 : decode cX0_becomeLike 60 = .ok (.getfield 24, 3) := by decide +kernel
theorem dX0_becomeLike_63 : decode cX0_becomeLike 63 = .ok (.putfield 24, 3) := by decide +kernel
theorem dX0_becomeLike_66 : decode cX0_becomeLike 66 = .ok (.aload_n 0, 1) := by decide +kernel
theorem dX0_becomeLike_67 : decode cX0_becomeLike 67 = .ok (.aload_n 1, 1) := by decide +kernel
theorem dX0_becomeLike_68 : decode cX0_becomeLike 68 = .ok (.getfield 34, 3) := by decide +kernel
theorem dX0_becomeLike_71 : decode cX0_becomeLike 71 = .ok (.putfield 34, 3) := by decide +kernel
theorem dX0_becomeLike_74 : decode cX0_becomeLike 74 = .ok (.aload_n 0, 1) := by decide +kernel
theorem dX0_becomeLike_75 : decode cX0_becomeLike 75 = .ok (.aload_n 1, 1) := by decide +kernel
theorem dX0_becomeLike_76 : decode cX0_becomeLike 76 = .ok (.getfield 37, 3) := by decide +kernel
theorem dX0_becomeLike_79 : decode cX0_becomeLike 79 = .ok (.putfield 37, 3) := by decide +kernel
theorem dX0_becomeLike_82 : decode cX0_becomeLike 82 = .ok (.aload_n 0, 1) := by decide +kernel
theorem dX0_becomeLike_83 : decode cX0_becomeLike 83 = .ok (.aload_n 1, 1) := by decide +kernel
theorem dX0_becomeLike_84 : decode cX0_becomeLike 84 = .ok (.getfield 40, 3) := by decide +kernel
theorem dX0_becomeLike_87 : decode cX0_becomeLike 87 = .ok (.putfield 40, 3) := by decide +kernel
theorem dX0_becomeLike_90 : decode cX0_becomeLike 90 = .ok (.aload_n 0, 1) := by decide +kernel
theorem dX0_becomeLike_91 : decode cX0_becomeLike 91 = .ok (.aload_n 1, 1) := by decide +kernel
theorem dX0_becomeLike_92 : decode cX0_becomeLike 92 = .ok (.getfield 43, 3) := by decide +kernel
theorem dX0_becomeLike_95 : decode cX0_becomeLike 95 = .ok (.putfield 43, 3) := by decide +kernel
theorem dX0_becomeLike_98 : decode cX0_becomeLike 98 = .ok (.aload_n 0, 1) := by decide +kernel
theorem dX0_becomeLike_99 : decode cX0_becomeLike 99 = .ok (.aload_n 1, 1) := by decide +kernel
theorem dX0_becomeLike_100 : decode cX0_becomeLike 100 = .ok (.getfield 46, 3) := by decide +kernel
theorem dX0_becomeLike_103 : decode cX0_becomeLike 103 = .ok (.putfield 46, 3) := by decide +kernel
theorem dX0_becomeLike_106 : decode cX0_becomeLike 106 = .ok (.return_, 1) := by decide +kernel
theorem dX0_forgetLoss_0 : decode cX0_forgetLoss 0 = .ok (.aload_n 0, 1) := by decide +kernel
theorem dX0_forgetLoss_1 : decode cX0_forgetLoss 1 = .ok (.iconst 0, 1) := by decide +kernel
theorem dX0_forgetLoss_2 : decode cX0_forgetLoss 2 = .ok (.putfield 43, 3) := by decide +kernel
theorem dX0_forgetLoss_5 : decode cX0_forgetLoss 5 = .ok (.aload_n 0, 1) := by decide +kernel
theorem dX0_forgetLoss_6 : decode cX0_forgetLoss 6 = .ok (.iconst 0, 1) := by decide +kernel
theorem dX0_forgetLoss_7 : decode cX0_forgetLoss 7 = .ok (.putfield 46, 3) := by decide +kernel
theorem dX0_forgetLoss_10 : decode cX0_forgetLoss 10 = .ok (.aload_n 0, 1) := by decide +kernel
theorem dX0_forgetLoss_11 : decode cX0_forgetLoss 11 = .ok (.getfield 21, 3) := by decide +kernel
theorem dX0_forgetLoss_14 : decode cX0_forgetLoss 14 = .ok (.iconst 0, 1) := by decide +kernel
theorem dX0_forgetLoss_15 : decode cX0_forgetLoss 15 = .ok (.invokestatic 55, 3) := by decide +kernel
theorem dX0_forgetLoss_18 : decode cX0_forgetLoss 18 = .ok (.return_, 1) := by decide +kernel
theorem dX0_loss_0 : decode cX0_loss 0 = .ok (.aload_n 0, 1) := by decide +kernel
theorem dX0_loss_1 : decode cX0_loss 1 = .ok (.getfield 43, 3) := by decide +kernel
theorem dX0_loss_4 : decode cX0_loss 4 = .ok (.aload_n 0, 1) := by decide +kernel
theorem dX0_loss_5 : decode cX0_loss 5 = .ok (.getfield 46, 3) := by decide +kernel
theorem dX0_loss_8 : decode cX0_loss 8 = .ok (.iadd, 1) := by decide +kernel
theorem dX0_loss_9 : decode cX0_loss 9 = .ok (.ireturn, 1) := by decide +kernel
theorem dX0_has_0 : decode cX0_has 0 = .ok (.iload_n 1, 1) := by decide +kernel
theorem dX0_has_1 : decode cX0_has 1 = .ok (.ifCond .lt 15, 3) := by decide +kernel
theorem dX0_has_4 : decode cX0_has 4 = .ok (.iload_n 1, 1) := by decide +kernel
theorem dX0_has_5 : decode cX0_has 5 = .ok (.aload_n 0, 1) := by decide +kernel
theorem dX0_has_6 : decode cX0_has 6 = .ok (.getfield 28, 3) := by decide +kernel
theorem dX0_has_9 : decode cX0_has 9 = .ok (.if_icmp .ge 7, 3) := by decide +kernel
theorem dX0_has_12 : decode cX0_has 12 = .ok (.iconst 1, 1) := by decide +kernel
theorem dX0_has_13 : decode cX0_has 13 = .ok (.goto 4, 3) := by decide +kernel
theorem dX0_has_16 : decode cX0_has 16 = .ok (.iconst 0, 1) := by decide +kernel
theorem dX0_has_17 : decode cX0_has 17 = .ok (.ireturn, 1) := by decide +kernel
theorem dX0_addHouse_0 : decode cX0_addHouse 0 = .ok (.aload_n 0, 1) := by decide +kernel
theorem dX0_addHouse_1 : decode cX0_addHouse 1 = .ok (.getfield 28, 3) := by decide +kernel
theorem dX0_addHouse_4 : decode cX0_addHouse 4 = .ok (.iconst 5, 1) := by decide +kernel
theorem dX0_addHouse_5 : decode cX0_addHouse 5 = .ok (.if_icmp .lt 4, 3) := by decide +kernel
theorem dX0_addHouse_8 : decode cX0_addHouse 8 = .ok (.return_, 1) := by decide +kernel
theorem dX0_addHouse_9 : decode cX0_addHouse 9 = .ok (.aload_n 0, 1) := by decide +kernel
theorem dX0_addHouse_10 : decode cX0_addHouse 10 = .ok (.getfield 9, 3) := by decide +kernel
theorem dX0_addHouse_13 : decode cX0_addHouse 13 = .ok (.aload_n 0, 1) := by decide +kernel
theorem dX0_addHouse_14 : decode cX0_addHouse 14 = .ok (.getfield 28, 3) := by decide +kernel
theorem dX0_addHouse_17 : decode cX0_addHouse 17 = .ok (.iload_n 1, 1) := by decide +kernel
theorem dX0_addHouse_18 : decode cX0_addHouse 18 = .ok (.iastore, 1) := by decide +kernel
theorem dX0_addHouse_19 : decode cX0_addHouse 19 = .ok (.aload_n 0, 1) := by decide +kernel
theorem dX0_addHouse_20 : decode cX0_addHouse 20 = .ok (.getfield 15, 3) := by decide +kernel
theorem dX0_addHouse_23 : decode cX0_addHouse 23 = .ok (.aload_n 0, 1) := by decide +kernel
theorem dX0_addHouse_24 : decode cX0_addHouse 24 = .ok (.getfield 28, 3) := by decide +kernel
theorem dX0_addHouse_27 : decode cX0_addHouse 27 = .ok (.iload_n 2, 1) := by decide +kernel
theorem dX0_addHouse_28 : decode cX0_addHouse 28 = .ok (.iastore, 1) := by decide +kernel
theorem dX0_addHouse_29 : decode cX0_addHouse 29 = .ok (.aload_n 0, 1) := by decide +kernel
theorem dX0_addHouse_30 : decode cX0_addHouse 30 = .ok (.getfield 18, 3) := by decide +kernel
theorem dX0_addHouse_33 : decode cX0_addHouse 33 = .ok (.aload_n 0, 1) := by decide +kernel
theorem dX0_addHouse_34 : decode cX0_addHouse 34 = .ok (.getfield 28, 3) := by decide +kernel
theorem dX0_addHouse_37 : decode cX0_addHouse 37 = .ok (.iconst 0, 1) := by decide +kernel
theorem dX0_addHouse_38 : decode cX0_addHouse 38 = .ok (.iastore, 1) := by decide +kernel
theorem dX0_addHouse_39 : decode cX0_addHouse 39 = .ok (.aload_n 0, 1) := by decide +kernel
theorem dX0_addHouse_40 : decode cX0_addHouse 40 = .ok (.dup, 1) := by decide +kernel
theorem dX0_addHouse_41 : decode cX0_addHouse 41 = .ok (.getfield 28, 3) := by decide +kernel
theorem dX0_addHouse_44 : decode cX0_addHouse 44 = .ok (.iconst 1, 1) := by decide +kernel
theorem dX0_addHouse_45 : decode cX0_addHouse 45 = .ok (.iadd, 1) := by decide +kernel
theorem dX0_addHouse_46 : decode cX0_addHouse 46 = .ok (.putfield 28, 3) := by decide +kernel
theorem dX0_addHouse_49 : decode cX0_addHouse 49 = .ok (.return_, 1) := by decide +kernel
theorem dX0_allWorth_0 : decode cX0_allWorth 0 = .ok (.iconst 0, 1) := by decide +kernel
theorem dX0_allWorth_1 : decode cX0_allWorth 1 = .ok (.istore_n 1, 1) := by decide +kernel
theorem dX0_allWorth_2 : decode cX0_allWorth 2 = .ok (.iconst 0, 1) := by decide +kernel
theorem dX0_allWorth_3 : decode cX0_allWorth 3 = .ok (.istore_n 2, 1) := by decide +kernel
theorem dX0_allWorth_4 : decode cX0_allWorth 4 = .ok (.iload_n 2, 1) := by decide +kernel
theorem dX0_allWorth_5 : decode cX0_allWorth 5 = .ok (.aload_n 0, 1) := by decide +kernel
theorem dX0_allWorth_6 : decode cX0_allWorth 6 = .ok (.getfield 28, 3) := by decide +kernel
theorem dX0_allWorth_9 : decode cX0_allWorth 9 = .ok (.if_icmp .ge 18, 3) := by decide +kernel
theorem dX0_allWorth_12 : decode cX0_allWorth 12 = .ok (.iload_n 1, 1) := by decide +kernel
theorem dX0_allWorth_13 : decode cX0_allWorth 13 = .ok (.aload_n 0, 1) := by decide +kernel
theorem dX0_allWorth_14 : decode cX0_allWorth 14 = .ok (.getfield 15, 3) := by decide +kernel
theorem dX0_allWorth_17 : decode cX0_allWorth 17 = .ok (.iload_n 2, 1) := by decide +kernel
theorem dX0_allWorth_18 : decode cX0_allWorth 18 = .ok (.iaload, 1) := by decide +kernel
theorem dX0_allWorth_19 : decode cX0_allWorth 19 = .ok (.iadd, 1) := by decide +kernel
theorem dX0_allWorth_20 : decode cX0_allWorth 20 = .ok (.istore_n 1, 1) := by decide +kernel
theorem dX0_allWorth_21 : decode cX0_allWorth 21 = .ok (.iinc 2 1, 3) := by decide +kernel
theorem dX0_allWorth_24 : decode cX0_allWorth 24 = .ok (.goto (-20), 3) := by decide +kernel
theorem dX0_allWorth_27 : decode cX0_allWorth 27 = .ok (.iload_n 1, 1) := by decide +kernel
theorem dX0_allWorth_28 : decode cX0_allWorth 28 = .ok (.ireturn, 1) := by decide +kernel
theorem dX0_allLost_0 : decode cX0_allLost 0 = .ok (.iconst 0, 1) := by decide +kernel
theorem dX0_allLost_1 : decode cX0_allLost 1 = .ok (.istore_n 1, 1) := by decide +kernel
theorem dX0_allLost_2 : decode cX0_allLost 2 = .ok (.iconst 0, 1) := by decide +kernel
theorem dX0_allLost_3 : decode cX0_allLost 3 = .ok (.istore_n 2, 1) := by decide +kernel
theorem dX0_allLost_4 : decode cX0_allLost 4 = .ok (.iload_n 2, 1) := by decide +kernel
theorem dX0_allLost_5 : decode cX0_allLost 5 = .ok (.aload_n 0, 1) := by decide +kernel
theorem dX0_allLost_6 : decode cX0_allLost 6 = .ok (.getfield 28, 3) := by decide +kernel
theorem dX0_allLost_9 : decode cX0_allLost 9 = .ok (.if_icmp .ge 18, 3) := by decide +kernel
theorem dX0_allLost_12 : decode cX0_allLost 12 = .ok (.iload_n 1, 1) := by decide +kernel
theorem dX0_allLost_13 : decode cX0_allLost 13 = .ok (.aload_n 0, 1) := by decide +kernel
theorem dX0_allLost_14 : decode cX0_allLost 14 = .ok (.getfield 18, 3) := by decide +kernel
theorem dX0_allLost_17 : decode cX0_allLost 17 = .ok (.iload_n 2, 1) := by decide +kernel
theorem dX0_allLost_18 : decode cX0_allLost 18 = .ok (.iaload, 1) := by decide +kernel
theorem dX0_allLost_19 : decode cX0_allLost 19 = .ok (.iadd, 1) := by decide +kernel
theorem dX0_allLost_20 : decode cX0_allLost 20 = .ok (.istore_n 1, 1) := by decide +kernel
theorem dX0_allLost_21 : decode cX0_allLost 21 = .ok (.iinc 2 1, 3) := by decide +kernel
theorem dX0_allLost_24 : decode cX0_allLost 24 = .ok (.goto (-20), 3) := by decide +kernel
theorem dX0_allLost_27 : decode cX0_allLost 27 = .ok (.iload_n 1, 1) := by decide +kernel
theorem dX0_allLost_28 : decode cX0_allLost 28 = .ok (.ireturn, 1) := by decide +kernel
theorem dX0_allKinds_0 : decode cX0_allKinds 0 = .ok (.iconst 1, 1) := by decide +kernel
theorem dX0_allKinds_1 : decode cX0_allKinds 1 = .ok (.iconst 2, 1) := by decide +kernel
theorem dX0_allKinds_2 : decode cX0_allKinds 2 = .ok (.aload_n 0, 1) := by decide +kernel
theorem dX0_allKinds_3 : decode cX0_allKinds 3 = .ok (.getfield 28, 3) := by decide +kernel
theorem dX0_allKinds_6 : decode cX0_allKinds 6 = .ok (.imul, 1) := by decide +kernel
theorem dX0_allKinds_7 : decode cX0_allKinds 7 = .ok (.ishl, 1) := by decide +kernel
theorem dX0_allKinds_8 : decode cX0_allKinds 8 = .ok (.ireturn, 1) := by decide +kernel
theorem dX0_kindBy_0 : decode cX0_kindBy 0 = .ok (.aload_n 0, 1) := by decide +kernel
theorem dX0_kindBy_1 : decode cX0_kindBy 1 = .ok (.iload_n 2, 1) := by decide +kernel
theorem dX0_kindBy_2 : decode cX0_kindBy 2 = .ok (.invokevirtual 61, 3) := by decide +kernel
theorem dX0_kindBy_5 : decode cX0_kindBy 5 = .ok (.ifCond .eq 20, 3) := by decide +kernel
theorem dX0_kindBy_8 : decode cX0_kindBy 8 = .ok (.iload_n 1, 1) := by decide +kernel
theorem dX0_kindBy_9 : decode cX0_kindBy 9 = .ok (.iconst 2, 1) := by decide +kernel
theorem dX0_kindBy_10 : decode cX0_kindBy 10 = .ok (.aload_n 0, 1) := by decide +kernel
theorem dX0_kindBy_11 : decode cX0_kindBy 11 = .ok (.getfield 28, 3) := by decide +kernel
theorem dX0_kindBy_14 : decode cX0_kindBy 14 = .ok (.iconst 1, 1) := by decide +kernel
theorem dX0_kindBy_15 : decode cX0_kindBy 15 = .ok (.isub, 1) := by decide +kernel
theorem dX0_kindBy_16 : decode cX0_kindBy 16 = .ok (.iload_n 2, 1) := by decide +kernel
theorem dX0_kindBy_17 : decode cX0_kindBy 17 = .ok (.isub, 1) := by decide +kernel
theorem dX0_kindBy_18 : decode cX0_kindBy 18 = .ok (.imul, 1) := by decide +kernel
theorem dX0_kindBy_19 : decode cX0_kindBy 19 = .ok (.ishr, 1) := by decide +kernel
theorem dX0_kindBy_20 : decode cX0_kindBy 20 = .ok (.iconst 3, 1) := by decide +kernel
theorem dX0_kindBy_21 : decode cX0_kindBy 21 = .ok (.iand, 1) := by decide +kernel
theorem dX0_kindBy_22 : decode cX0_kindBy 22 = .ok (.goto 4, 3) := by decide +kernel
theorem dX0_kindBy_25 : decode cX0_kindBy 25 = .ok (.iconst 0, 1) := by decide +kernel
theorem dX0_kindBy_26 : decode cX0_kindBy 26 = .ok (.ireturn, 1) := by decide +kernel
theorem dX0_putKinds_0 : decode cX0_putKinds 0 = .ok (.iconst 0, 1) := by decide +kernel
theorem dX0_putKinds_1 : decode cX0_putKinds 1 = .ok (.istore_n 2, 1) := by decide +kernel
theorem dX0_putKinds_2 : decode cX0_putKinds 2 = .ok (.iload_n 2, 1) := by decide +kernel
theorem dX0_putKinds_3 : decode cX0_putKinds 3 = .ok (.aload_n 0, 1) := by decide +kernel
theorem dX0_putKinds_4 : decode cX0_putKinds 4 = .ok (.getfield 28, 3) := by decide +kernel
theorem dX0_putKinds_7 : decode cX0_putKinds 7 = .ok (.if_icmp .ge 21, 3) := by decide +kernel
theorem dX0_putKinds_10 : decode cX0_putKinds 10 = .ok (.aload_n 0, 1) := by decide +kernel
theorem dX0_putKinds_11 : decode cX0_putKinds 11 = .ok (.getfield 9, 3) := by decide +kernel
theorem dX0_putKinds_14 : decode cX0_putKinds 14 = .ok (.iload_n 2, 1) := by decide +kernel
theorem dX0_putKinds_15 : decode cX0_putKinds 15 = .ok (.aload_n 0, 1) := by decide +kernel
theorem dX0_putKinds_16 : decode cX0_putKinds 16 = .ok (.iload_n 1, 1) := by decide +kernel
theorem dX0_putKinds_17 : decode cX0_putKinds 17 = .ok (.iload_n 2, 1) := by decide +kernel
theorem dX0_putKinds_18 : decode cX0_putKinds 18 = .ok (.invokevirtual 65, 3) := by decide +kernel
theorem dX0_putKinds_21 : decode cX0_putKinds 21 = .ok (.iastore, 1) := by decide +kernel
theorem dX0_putKinds_22 : decode cX0_putKinds 22 = .ok (.iinc 2 1, 3) := by decide +kernel
theorem dX0_putKinds_25 : decode cX0_putKinds 25 = .ok (.goto (-23), 3) := by decide +kernel
theorem dX0_putKinds_28 : decode cX0_putKinds 28 = .ok (.return_, 1) := by decide +kernel
theorem dX0_putKind_0 : decode cX0_putKind 0 = .ok (.aload_n 0, 1) := by decide +kernel
theorem dX0_putKind_1 : decode cX0_putKind 1 = .ok (.iload_n 1, 1) := by decide +kernel
theorem dX0_putKind_2 : decode cX0_putKind 2 = .ok (.invokevirtual 61, 3) := by decide +kernel
theorem dX0_putKind_5 : decode cX0_putKind 5 = .ok (.ifCond .eq 10, 3) := by decide +kernel
theorem dX0_putKind_8 : decode cX0_putKind 8 = .ok (.aload_n 0, 1) := by decide +kernel
theorem dX0_putKind_9 : decode cX0_putKind 9 = .ok (.getfield 9, 3) := by decide +kernel
theorem dX0_putKind_12 : decode cX0_putKind 12 = .ok (.iload_n 1, 1) := by decide +kernel
theorem dX0_putKind_13 : decode cX0_putKind 13 = .ok (.iload_n 2, 1) := by decide +kernel
theorem dX0_putKind_14 : decode cX0_putKind 14 = .ok (.iastore, 1) := by decide +kernel
theorem dX0_putKind_15 : decode cX0_putKind 15 = .ok (.return_, 1) := by decide +kernel
theorem dX0_putKindIn_0 : decode cX0_putKindIn 0 = .ok (.iconst 0, 1) := by decide +kernel
theorem dX0_putKindIn_1 : decode cX0_putKindIn 1 = .ok (.istore_n 3, 1) := by decide +kernel
theorem dX0_putKindIn_2 : decode cX0_putKindIn 2 = .ok (.iload_n 3, 1) := by decide +kernel
theorem dX0_putKindIn_3 : decode cX0_putKindIn 3 = .ok (.aload_n 0, 1) := by decide +kernel
theorem dX0_putKindIn_4 : decode cX0_putKindIn 4 = .ok (.getfield 28, 3) := by decide +kernel
theorem dX0_putKindIn_7 : decode cX0_putKindIn 7 = .ok (.if_icmp .ge 25, 3) := by decide +kernel
theorem dX0_putKindIn_10 : decode cX0_putKindIn 10 = .ok (.iload_n 1, 1) := by decide +kernel
theorem dX0_putKindIn_11 : decode cX0_putKindIn 11 = .ok (.iload_n 3, 1) := by decide +kernel
theorem dX0_putKindIn_12 : decode cX0_putKindIn 12 = .ok (.ishr, 1) := by decide +kernel
theorem dX0_putKindIn_13 : decode cX0_putKindIn 13 = .ok (.iconst 1, 1) := by decide +kernel
theorem dX0_putKindIn_14 : decode cX0_putKindIn 14 = .ok (.iand, 1) := by decide +kernel
theorem dX0_putKindIn_15 : decode cX0_putKindIn 15 = .ok (.iconst 1, 1) := by decide +kernel
theorem dX0_putKindIn_16 : decode cX0_putKindIn 16 = .ok (.if_icmp .ne 10, 3) := by decide +kernel
theorem dX0_putKindIn_19 : decode cX0_putKindIn 19 = .ok (.aload_n 0, 1) := by decide +kernel
theorem dX0_putKindIn_20 : decode cX0_putKindIn 20 = .ok (.getfield 9, 3) := by decide +kernel
theorem dX0_putKindIn_23 : decode cX0_putKindIn 23 = .ok (.iload_n 3, 1) := by decide +kernel
theorem dX0_putKindIn_24 : decode cX0_putKindIn 24 = .ok (.iload_n 2, 1) := by decide +kernel
theorem dX0_putKindIn_25 : decode cX0_putKindIn 25 = .ok (.iastore, 1) := by decide +kernel
theorem dX0_putKindIn_26 : decode cX0_putKindIn 26 = .ok (.iinc 3 1, 3) := by decide +kernel
theorem dX0_putKindIn_29 : decode cX0_putKindIn 29 = .ok (.goto (-27), 3) := by decide +kernel
theorem dX0_putKindIn_32 : decode cX0_putKindIn 32 = .ok (.return_, 1) := by decide +kernel
theorem dX0_giveAhead_0 : decode cX0_giveAhead 0 = .ok (.aload_n 0, 1) := by decide +kernel
theorem dX0_giveAhead_1 : decode cX0_giveAhead 1 = .ok (.iload_n 1, 1) := by decide +kernel
theorem dX0_giveAhead_2 : decode cX0_giveAhead 2 = .ok (.invokevirtual 61, 3) := by decide +kernel
theorem dX0_giveAhead_5 : decode cX0_giveAhead 5 = .ok (.ifCond .eq 13, 3) := by decide +kernel
theorem dX0_giveAhead_8 : decode cX0_giveAhead 8 = .ok (.iload_n 2, 1) := by decide +kernel
theorem dX0_giveAhead_9 : decode cX0_giveAhead 9 = .ok (.iconst 1, 1) := by decide +kernel
theorem dX0_giveAhead_10 : decode cX0_giveAhead 10 = .ok (.bipush 20, 2) := by decide +kernel
theorem dX0_giveAhead_12 : decode cX0_giveAhead 12 = .ok (.invokestatic 69, 3) := by decide +kernel
theorem dX0_giveAhead_15 : decode cX0_giveAhead 15 = .ok (.ifCond .eq 5, 3) := by decide +kernel
theorem dX0_giveAhead_18 : decode cX0_giveAhead 18 = .ok (.iconst (-1), 1) := by decide +kernel
theorem dX0_giveAhead_19 : decode cX0_giveAhead 19 = .ok (.ireturn, 1) := by decide +kernel
theorem dX0_giveAhead_20 : decode cX0_giveAhead 20 = .ok (.aload_n 0, 1) := by decide +kernel
theorem dX0_giveAhead_21 : decode cX0_giveAhead 21 = .ok (.getfield 15, 3) := by decide +kernel
theorem dX0_giveAhead_24 : decode cX0_giveAhead 24 = .ok (.iload_n 1, 1) := by decide +kernel
theorem dX0_giveAhead_25 : decode cX0_giveAhead 25 = .ok (.iaload, 1) := by decide +kernel
theorem dX0_giveAhead_26 : decode cX0_giveAhead 26 = .ok (.iload_n 2, 1) := by decide +kernel
theorem dX0_giveAhead_27 : decode cX0_giveAhead 27 = .ok (.if_icmp .ge 6, 3) := by decide +kernel
theorem dX0_giveAhead_30 : decode cX0_giveAhead 30 = .ok (.bipush (-2), 2) := by decide +kernel
theorem dX0_giveAhead_32 : decode cX0_giveAhead 32 = .ok (.ireturn, 1) := by decide +kernel
theorem dX0_giveAhead_33 : decode cX0_giveAhead 33 = .ok (.aload_n 0, 1) := by decide +kernel
theorem dX0_giveAhead_34 : decode cX0_giveAhead 34 = .ok (.iload_n 1, 1) := by decide +kernel
theorem dX0_giveAhead_35 : decode cX0_giveAhead 35 = .ok (.iload_n 2, 1) := by decide +kernel
theorem dX0_giveAhead_36 : decode cX0_giveAhead 36 = .ok (.invokevirtual 73, 3) := by decide +kernel
theorem dX0_giveAhead_39 : decode cX0_giveAhead 39 = .ok (.aload_n 0, 1) := by decide +kernel
theorem dX0_giveAhead_40 : decode cX0_giveAhead 40 = .ok (.getfield 24, 3) := by decide +kernel
theorem dX0_giveAhead_43 : decode cX0_giveAhead 43 = .ok (.ireturn, 1) := by decide +kernel
theorem dX0_passNights_0 : decode cX0_passNights 0 = .ok (.iconst 0, 1) := by decide +kernel
theorem dX0_passNights_1 : decode cX0_passNights 1 = .ok (.istore_n 2, 1) := by decide +kernel
theorem dX0_passNights_2 : decode cX0_passNights 2 = .ok (.iload_n 2, 1) := by decide +kernel
theorem dX0_passNights_3 : decode cX0_passNights 3 = .ok (.iload_n 1, 1) := by decide +kernel
theorem dX0_passNights_4 : decode cX0_passNights 4 = .ok (.if_icmp .ge 13, 3) := by decide +kernel
theorem dX0_passNights_7 : decode cX0_passNights 7 = .ok (.aload_n 0, 1) := by decide +kernel
theorem dX0_passNights_8 : decode cX0_passNights 8 = .ok (.invokevirtual 77, 3) := by decide +kernel
theorem dX0_passNights_11 : decode cX0_passNights 11 = .ok (.iinc 2 1, 3) := by decide +kernel
theorem dX0_passNights_14 : decode cX0_passNights 14 = .ok (.goto (-12), 3) := by decide +kernel
theorem dX0_passNights_17 : decode cX0_passNights 17 = .ok (.return_, 1) := by decide +kernel
theorem dX0_passNight_0 : decode cX0_passNight 0 = .ok (.aload_n 0, 1) := by decide +kernel
theorem dX0_passNight_1 : decode cX0_passNight 1 = .ok (.getfield 37, 3) := by decide +kernel
theorem dX0_passNight_4 : decode cX0_passNight 4 = .ok (.aload_n 0, 1) := by decide +kernel
theorem dX0_passNight_5 : decode cX0_passNight 5 = .ok (.getfield 40, 3) := by decide +kernel
theorem dX0_passNight_8 : decode cX0_passNight 8 = .ok (.bipush 7, 2) := by decide +kernel
theorem dX0_passNight_10 : decode cX0_passNight 10 = .ok (.irem, 1) := by decide +kernel
theorem dX0_passNight_11 : decode cX0_passNight 11 = .ok (.ishr, 1) := by decide +kernel
theorem dX0_passNight_12 : decode cX0_passNight 12 = .ok (.iconst 1, 1) := by decide +kernel
theorem dX0_passNight_13 : decode cX0_passNight 13 = .ok (.iand, 1) := by decide +kernel
theorem dX0_passNight_14 : decode cX0_passNight 14 = .ok (.ifCond .ne 7, 3) := by decide +kernel
theorem dX0_passNight_17 : decode cX0_passNight 17 = .ok (.aload_n 0, 1) := by decide +kernel
theorem dX0_passNight_18 : decode cX0_passNight 18 = .ok (.invokevirtual 80, 3) := by decide +kernel
theorem dX0_passNight_21 : decode cX0_passNight 21 = .ok (.aload_n 0, 1) := by decide +kernel
theorem dX0_passNight_22 : decode cX0_passNight 22 = .ok (.dup, 1) := by decide +kernel
theorem dX0_passNight_23 : decode cX0_passNight 23 = .ok (.getfield 40, 3) := by decide +kernel
theorem dX0_passNight_26 : decode cX0_passNight 26 = .ok (.iconst 1, 1) := by decide +kernel
theorem dX0_passNight_27 : decode cX0_passNight 27 = .ok (.iadd, 1) := by decide +kernel
theorem dX0_passNight_28 : decode cX0_passNight 28 = .ok (.putfield 40, 3) := by decide +kernel
theorem dX0_passNight_31 : decode cX0_passNight 31 = .ok (.return_, 1) := by decide +kernel
theorem dX0_ask_0 : decode cX0_ask 0 = .ok (.aload_n 0, 1) := by decide +kernel
theorem dX0_ask_1 : decode cX0_ask 1 = .ok (.aload_n 0, 1) := by decide +kernel
theorem dX0_ask_2 : decode cX0_ask 2 = .ok (.getfield 31, 3) := by decide +kernel
theorem dX0_ask_5 : decode cX0_ask 5 = .ok (.invokevirtual 61, 3) := by decide +kernel
theorem dX0_ask_8 : decode cX0_ask 8 = .ok (.ifCond .ne 4, 3) := by decide +kernel
theorem dX0_ask_11 : decode cX0_ask 11 = .ok (.return_, 1) := by decide +kernel
theorem dX0_ask_12 : decode cX0_ask 12 = .ok (.aload_n 0, 1) := by decide +kernel
theorem dX0_ask_13 : decode cX0_ask 13 = .ok (.getfield 31, 3) := by decide +kernel
theorem dX0_ask_16 : decode cX0_ask 16 = .ok (.iconst 1, 1) := by decide +kernel
theorem dX0_ask_17 : decode cX0_ask 17 = .ok (.iadd, 1) := by decide +kernel
theorem dX0_ask_18 : decode cX0_ask 18 = .ok (.aload_n 0, 1) := by decide +kernel
theorem dX0_ask_19 : decode cX0_ask 19 = .ok (.getfield 28, 3) := by decide +kernel
theorem dX0_ask_22 : decode cX0_ask 22 = .ok (.if_icmp .ge 12, 3) := by decide +kernel
theorem dX0_ask_25 : decode cX0_ask 25 = .ok (.aload_n 0, 1) := by decide +kernel
theorem dX0_ask_26 : decode cX0_ask 26 = .ok (.getfield 31, 3) := by decide +kernel
theorem dX0_ask_29 : decode cX0_ask 29 = .ok (.iconst 1, 1) := by decide +kernel
theorem dX0_ask_30 : decode cX0_ask 30 = .ok (.iadd, 1) := by decide +kernel
theorem dX0_ask_31 : decode cX0_ask 31 = .ok (.goto 4, 3) := by decide +kernel
theorem dX0_ask_34 : decode cX0_ask 34 = .ok (.iconst 0, 1) := by decide +kernel
theorem dX0_ask_35 : decode cX0_ask 35 = .ok (.istore_n 1, 1) := by decide +kernel
theorem dX0_ask_36 : decode cX0_ask 36 = .ok (.aload_n 0, 1) := by decide +kernel
theorem dX0_ask_37 : decode cX0_ask 37 = .ok (.getfield 9, 3) := by decide +kernel
theorem dX0_ask_40 : decode cX0_ask 40 = .ok (.aload_n 0, 1) := by decide +kernel
theorem dX0_ask_41 : decode cX0_ask 41 = .ok (.getfield 31, 3) := by decide +kernel
theorem dX0_ask_44 : decode cX0_ask 44 = .ok (.iaload, 1) := by decide +kernel
theorem dX0_ask_45 : decode cX0_ask 45 = .ok (.iconst 3, 1) := by decide +kernel
theorem dX0_ask_46 : decode cX0_ask 46 = .ok (.if_icmp .ne 19, 3) := by decide +kernel
theorem dX0_ask_49 : decode cX0_ask 49 = .ok (.aload_n 0, 1) := by decide +kernel
theorem dX0_ask_50 : decode cX0_ask 50 = .ok (.getfield 15, 3) := by decide +kernel
theorem dX0_ask_53 : decode cX0_ask 53 = .ok (.aload_n 0, 1) := by decide +kernel
theorem dX0_ask_54 : decode cX0_ask 54 = .ok (.getfield 31, 3) := by decide +kernel
theorem dX0_ask_57 : decode cX0_ask 57 = .ok (.iaload, 1) := by decide +kernel
theorem dX0_ask_58 : decode cX0_ask 58 = .ok (.ifCond .ne 7, 3) := by decide +kernel
theorem dX0_ask_61 : decode cX0_ask 61 = .ok (.iconst 0, 1) := by decide +kernel
theorem dX0_ask_62 : decode cX0_ask 62 = .ok (.goto 12, 3) := by decide +kernel
theorem dX0_ask_65 : decode cX0_ask 65 = .ok (.aload_n 0, 1) := by decide +kernel
theorem dX0_ask_66 : decode cX0_ask 66 = .ok (.getfield 9, 3) := by decide +kernel
theorem dX0_ask_69 : decode cX0_ask 69 = .ok (.aload_n 0, 1) := by decide +kernel
theorem dX0_ask_70 : decode cX0_ask 70 = .ok (.getfield 31, 3) := by decide +kernel
theorem dX0_ask_73 : decode cX0_ask 73 = .ok (.iaload, 1) := by decide +kernel
theorem dX0_ask_74 : decode cX0_ask 74 = .ok (.istore_n 2, 1) := by decide +kernel
theorem dX0_ask_75 : decode cX0_ask 75 = .ok (.iload_n 2, 1) := by decide +kernel
theorem dX0_ask_76 : decode cX0_ask 76 = .ok (.tableswitch 106 1 3 #[28, 56, 80], 28) := by decide +kernel
theorem dX0_ask_104 : decode cX0_ask 104 = .ok (.aload_n 0, 1) := by decide +kernel
theorem dX0_ask_105 : decode cX0_ask 105 = .ok (.aload_n 0, 1) := by decide +kernel
theorem dX0_ask_106 : decode cX0_ask 106 = .ok (.getfield 34, 3) := by decide +kernel
theorem dX0_ask_109 : decode cX0_ask 109 = .ok (.iconst 1, 1) := by decide +kernel
theorem dX0_ask_110 : decode cX0_ask 110 = .ok (.iadd, 1) := by decide +kernel
theorem dX0_ask_111 : decode cX0_ask 111 = .ok (.bipush 9, 2) := by decide +kernel
theorem dX0_ask_113 : decode cX0_ask 113 = .ok (.invokestatic 83, 3) := by decide +kernel
theorem dX0_ask_116 : decode cX0_ask 116 = .ok (.putfield 34, 3) := by decide +kernel
theorem dX0_ask_119 : decode cX0_ask 119 = .ok (.aload_n 0, 1) := by decide +kernel
theorem dX0_ask_120 : decode cX0_ask 120 = .ok (.iload_n 1, 1) := by decide +kernel
theorem dX0_ask_121 : decode cX0_ask 121 = .ok (.aload_n 0, 1) := by decide +kernel
theorem dX0_ask_122 : decode cX0_ask 122 = .ok (.getfield 34, 3) := by decide +kernel
theorem dX0_ask_125 : decode cX0_ask 125 = .ok (.invokevirtual 88, 3) := by decide +kernel
theorem dX0_ask_128 : decode cX0_ask 128 = .ok (.pop, 1) := by decide +kernel
theorem dX0_ask_129 : decode cX0_ask 129 = .ok (.goto 68, 3) := by decide +kernel
theorem dX0_ask_132 : decode cX0_ask 132 = .ok (.aload_n 0, 1) := by decide +kernel
theorem dX0_ask_133 : decode cX0_ask 133 = .ok (.dup, 1) := by decide +kernel
theorem dX0_ask_134 : decode cX0_ask 134 = .ok (.getfield 24, 3) := by decide +kernel
theorem dX0_ask_137 : decode cX0_ask 137 = .ok (.aload_n 0, 1) := by decide +kernel
theorem dX0_ask_138 : decode cX0_ask 138 = .ok (.aload_n 0, 1) := by decide +kernel
theorem dX0_ask_139 : decode cX0_ask 139 = .ok (.getfield 31, 3) := by decide +kernel
theorem dX0_ask_142 : decode cX0_ask 142 = .ok (.aload_n 0, 1) := by decide +kernel
theorem dX0_ask_143 : decode cX0_ask 143 = .ok (.getfield 24, 3) := by decide +kernel
theorem dX0_ask_146 : decode cX0_ask 146 = .ok (.invokevirtual 88, 3) := by decide +kernel
theorem dX0_ask_149 : decode cX0_ask 149 = .ok (.isub, 1) := by decide +kernel
theorem dX0_ask_150 : decode cX0_ask 150 = .ok (.putfield 24, 3) := by decide +kernel
theorem dX0_ask_153 : decode cX0_ask 153 = .ok (.goto 44, 3) := by decide +kernel
theorem dX0_ask_156 : decode cX0_ask 156 = .ok (.aload_n 0, 1) := by decide +kernel
theorem dX0_ask_157 : decode cX0_ask 157 = .ok (.aload_n 0, 1) := by decide +kernel
theorem dX0_ask_158 : decode cX0_ask 158 = .ok (.getfield 31, 3) := by decide +kernel
theorem dX0_ask_161 : decode cX0_ask 161 = .ok (.iconst 1, 1) := by decide +kernel
theorem dX0_ask_162 : decode cX0_ask 162 = .ok (.invokevirtual 73, 3) := by decide +kernel
theorem dX0_ask_165 : decode cX0_ask 165 = .ok (.aload_n 0, 1) := by decide +kernel
theorem dX0_ask_166 : decode cX0_ask 166 = .ok (.aload_n 0, 1) := by decide +kernel
theorem dX0_ask_167 : decode cX0_ask 167 = .ok (.getfield 34, 3) := by decide +kernel
theorem dX0_ask_170 : decode cX0_ask 170 = .ok (.iconst 1, 1) := by decide +kernel
theorem dX0_ask_171 : decode cX0_ask 171 = .ok (.isub, 1) := by decide +kernel
theorem dX0_ask_172 : decode cX0_ask 172 = .ok (.iconst 0, 1) := by decide +kernel
theorem dX0_ask_173 : decode cX0_ask 173 = .ok (.invokestatic 91, 3) := by decide +kernel
theorem dX0_ask_176 : decode cX0_ask 176 = .ok (.putfield 34, 3) := by decide +kernel
theorem dX0_ask_179 : decode cX0_ask 179 = .ok (.goto 18, 3) := by decide +kernel
theorem dX0_ask_182 : decode cX0_ask 182 = .ok (.aload_n 0, 1) := by decide +kernel
theorem dX0_ask_183 : decode cX0_ask 183 = .ok (.aload_n 0, 1) := by decide +kernel
theorem dX0_ask_184 : decode cX0_ask 184 = .ok (.getfield 24, 3) := by decide +kernel
theorem dX0_ask_187 : decode cX0_ask 187 = .ok (.iconst 1, 1) := by decide +kernel
theorem dX0_ask_188 : decode cX0_ask 188 = .ok (.iadd, 1) := by decide +kernel
theorem dX0_ask_189 : decode cX0_ask 189 = .ok (.bipush 20, 2) := by decide +kernel
theorem dX0_ask_191 : decode cX0_ask 191 = .ok (.invokestatic 83, 3) := by decide +kernel
theorem dX0_ask_194 : decode cX0_ask 194 = .ok (.putfield 24, 3) := by decide +kernel
theorem dX0_ask_197 : decode cX0_ask 197 = .ok (.aload_n 0, 1) := by decide +kernel
theorem dX0_ask_198 : decode cX0_ask 198 = .ok (.iload_n 1, 1) := by decide +kernel
theorem dX0_ask_199 : decode cX0_ask 199 = .ok (.putfield 31, 3) := by decide +kernel
theorem dX0_ask_202 : decode cX0_ask 202 = .ok (.return_, 1) := by decide +kernel
theorem dX0_give_0 : decode cX0_give 0 = .ok (.aload_n 0, 1) := by decide +kernel
theorem dX0_give_1 : decode cX0_give 1 = .ok (.getfield 15, 3) := by decide +kernel
theorem dX0_give_4 : decode cX0_give 4 = .ok (.iload_n 1, 1) := by decide +kernel
theorem dX0_give_5 : decode cX0_give 5 = .ok (.dup2, 1) := by decide +kernel
theorem dX0_give_6 : decode cX0_give 6 = .ok (.iaload, 1) := by decide +kernel
theorem dX0_give_7 : decode cX0_give 7 = .ok (.iload_n 2, 1) := by decide +kernel
theorem dX0_give_8 : decode cX0_give 8 = .ok (.isub, 1) := by decide +kernel
theorem dX0_give_9 : decode cX0_give 9 = .ok (.iastore, 1) := by decide +kernel
theorem dX0_give_10 : decode cX0_give 10 = .ok (.aload_n 0, 1) := by decide +kernel
theorem dX0_give_11 : decode cX0_give 11 = .ok (.getfield 18, 3) := by decide +kernel
theorem dX0_give_14 : decode cX0_give 14 = .ok (.iload_n 1, 1) := by decide +kernel
theorem dX0_give_15 : decode cX0_give 15 = .ok (.dup2, 1) := by decide +kernel
theorem dX0_give_16 : decode cX0_give 16 = .ok (.iaload, 1) := by decide +kernel
theorem dX0_give_17 : decode cX0_give 17 = .ok (.iload_n 2, 1) := by decide +kernel
theorem dX0_give_18 : decode cX0_give 18 = .ok (.iadd, 1) := by decide +kernel
theorem dX0_give_19 : decode cX0_give 19 = .ok (.iastore, 1) := by decide +kernel
theorem dX0_give_20 : decode cX0_give 20 = .ok (.aload_n 0, 1) := by decide +kernel
theorem dX0_give_21 : decode cX0_give 21 = .ok (.dup, 1) := by decide +kernel
theorem dX0_give_22 : decode cX0_give 22 = .ok (.getfield 46, 3) := by decide +kernel
theorem dX0_give_25 : decode cX0_give 25 = .ok (.iload_n 2, 1) := by decide +kernel
theorem dX0_give_26 : decode cX0_give 26 = .ok (.iadd, 1) := by decide +kernel
theorem dX0_give_27 : decode cX0_give 27 = .ok (.putfield 46, 3) := by decide +kernel
theorem dX0_give_30 : decode cX0_give 30 = .ok (.aload_n 0, 1) := by decide +kernel
theorem dX0_give_31 : decode cX0_give 31 = .ok (.aload_n 0, 1) := by decide +kernel
theorem dX0_give_32 : decode cX0_give 32 = .ok (.getfield 24, 3) := by decide +kernel
theorem dX0_give_35 : decode cX0_give 35 = .ok (.iload_n 2, 1) := by decide +kernel
theorem dX0_give_36 : decode cX0_give 36 = .ok (.isub, 1) := by decide +kernel
theorem dX0_give_37 : decode cX0_give 37 = .ok (.iconst 0, 1) := by decide +kernel
theorem dX0_give_38 : decode cX0_give 38 = .ok (.invokestatic 91, 3) := by decide +kernel
theorem dX0_give_41 : decode cX0_give 41 = .ok (.putfield 24, 3) := by decide +kernel
theorem dX0_give_44 : decode cX0_give 44 = .ok (.return_, 1) := by decide +kernel
theorem dX0_burn_0 : decode cX0_burn 0 = .ok (.iload_n 2, 1) := by decide +kernel
theorem dX0_burn_1 : decode cX0_burn 1 = .ok (.aload_n 0, 1) := by decide +kernel
theorem dX0_burn_2 : decode cX0_burn 2 = .ok (.getfield 15, 3) := by decide +kernel
theorem dX0_burn_5 : decode cX0_burn 5 = .ok (.iload_n 1, 1) := by decide +kernel
theorem dX0_burn_6 : decode cX0_burn 6 = .ok (.iaload, 1) := by decide +kernel
theorem dX0_burn_7 : decode cX0_burn 7 = .ok (.invokestatic 83, 3) := by decide +kernel
theorem dX0_burn_10 : decode cX0_burn 10 = .ok (.istore_n 3, 1) := by decide +kernel
theorem dX0_burn_11 : decode cX0_burn 11 = .ok (.aload_n 0, 1) := by decide +kernel
theorem dX0_burn_12 : decode cX0_burn 12 = .ok (.getfield 15, 3) := by decide +kernel
theorem dX0_burn_15 : decode cX0_burn 15 = .ok (.iload_n 1, 1) := by decide +kernel
theorem dX0_burn_16 : decode cX0_burn 16 = .ok (.dup2, 1) := by decide +kernel
theorem dX0_burn_17 : decode cX0_burn 17 = .ok (.iaload, 1) := by decide +kernel
theorem dX0_burn_18 : decode cX0_burn 18 = .ok (.iload_n 3, 1) := by decide +kernel
theorem dX0_burn_19 : decode cX0_burn 19 = .ok (.isub, 1) := by decide +kernel
theorem dX0_burn_20 : decode cX0_burn 20 = .ok (.iastore, 1) := by decide +kernel
theorem dX0_burn_21 : decode cX0_burn 21 = .ok (.aload_n 0, 1) := by decide +kernel
theorem dX0_burn_22 : decode cX0_burn 22 = .ok (.getfield 18, 3) := by decide +kernel
theorem dX0_burn_25 : decode cX0_burn 25 = .ok (.iload_n 1, 1) := by decide +kernel
theorem dX0_burn_26 : decode cX0_burn 26 = .ok (.dup2, 1) := by decide +kernel
theorem dX0_burn_27 : decode cX0_burn 27 = .ok (.iaload, 1) := by decide +kernel
theorem dX0_burn_28 : decode cX0_burn 28 = .ok (.iload_n 3, 1) := by decide +kernel
theorem dX0_burn_29 : decode cX0_burn 29 = .ok (.iadd, 1) := by decide +kernel
theorem dX0_burn_30 : decode cX0_burn 30 = .ok (.iastore, 1) := by decide +kernel
theorem dX0_burn_31 : decode cX0_burn 31 = .ok (.aload_n 0, 1) := by decide +kernel
theorem dX0_burn_32 : decode cX0_burn 32 = .ok (.getfield 21, 3) := by decide +kernel
theorem dX0_burn_35 : decode cX0_burn 35 = .ok (.iload_n 1, 1) := by decide +kernel
theorem dX0_burn_36 : decode cX0_burn 36 = .ok (.dup2, 1) := by decide +kernel
theorem dX0_burn_37 : decode cX0_burn 37 = .ok (.iaload, 1) := by decide +kernel
theorem dX0_burn_38 : decode cX0_burn 38 = .ok (.iload_n 3, 1) := by decide +kernel
theorem dX0_burn_39 : decode cX0_burn 39 = .ok (.iadd, 1) := by decide +kernel
theorem dX0_burn_40 : decode cX0_burn 40 = .ok (.iastore, 1) := by decide +kernel
theorem dX0_burn_41 : decode cX0_burn 41 = .ok (.aload_n 0, 1) := by decide +kernel
theorem dX0_burn_42 : decode cX0_burn 42 = .ok (.dup, 1) := by decide +kernel
theorem dX0_burn_43 : decode cX0_burn 43 = .ok (.getfield 43, 3) := by decide +kernel
theorem dX0_burn_46 : decode cX0_burn 46 = .ok (.iload_n 3, 1) := by decide +kernel
theorem dX0_burn_47 : decode cX0_burn 47 = .ok (.iadd, 1) := by decide +kernel
theorem dX0_burn_48 : decode cX0_burn 48 = .ok (.putfield 43, 3) := by decide +kernel
theorem dX0_burn_51 : decode cX0_burn 51 = .ok (.iload_n 3, 1) := by decide +kernel
theorem dX0_burn_52 : decode cX0_burn 52 = .ok (.ireturn, 1) := by decide +kernel
theorem dX1_init_0 : decode cX1_init 0 = .ok (.aload_n 0, 1) := by decide +kernel
theorem dX1_init_1 : decode cX1_init 1 = .ok (.invokespecial 1, 3) := by decide +kernel
theorem dX1_init_4 : decode cX1_init 4 = .ok (.aload_n 0, 1) := by decide +kernel
theorem dX1_init_5 : decode cX1_init 5 = .ok (.new 7, 3) := by decide +kernel
theorem dX1_init_8 : decode cX1_init 8 = .ok (.dup, 1) := by decide +kernel
theorem dX1_init_9 : decode cX1_init 9 = .ok (.invokespecial 9, 3) := by decide +kernel
theorem dX1_init_12 : decode cX1_init 12 = .ok (.putfield 10, 3) := by decide +kernel
theorem dX1_init_15 : decode cX1_init 15 = .ok (.aload_n 0, 1) := by decide +kernel
theorem dX1_init_16 : decode cX1_init 16 = .ok (.new 16, 3) := by decide +kernel
theorem dX1_init_19 : decode cX1_init 19 = .ok (.dup, 1) := by decide +kernel
theorem dX1_init_20 : decode cX1_init 20 = .ok (.invokespecial 18, 3) := by decide +kernel
theorem dX1_init_23 : decode cX1_init 23 = .ok (.putfield 19, 3) := by decide +kernel
theorem dX1_init_26 : decode cX1_init 26 = .ok (.return_, 1) := by decide +kernel
theorem dX2_init_0 : decode cX2_init 0 = .ok (.aload_n 0, 1) := by decide +kernel
theorem dX2_init_1 : decode cX2_init 1 = .ok (.invokespecial 3, 3) := by decide +kernel
theorem dX2_init_4 : decode cX2_init 4 = .ok (.aload_n 0, 1) := by decide +kernel
theorem dX2_init_5 : decode cX2_init 5 = .ok (.bipush 40, 2) := by decide +kernel
theorem dX2_init_7 : decode cX2_init 7 = .ok (.newarray .int, 2) := by decide +kernel
theorem dX2_init_9 : decode cX2_init 9 = .ok (.putfield 9, 3) := by decide +kernel
theorem dX2_init_12 : decode cX2_init 12 = .ok (.return_, 1) := by decide +kernel
theorem dX2_renew_0 : decode cX2_renew 0 = .ok (.aload_n 0, 1) := by decide +kernel
theorem dX2_renew_1 : decode cX2_renew 1 = .ok (.getfield 9, 3) := by decide +kernel
theorem dX2_renew_4 : decode cX2_renew 4 = .ok (.iconst 0, 1) := by decide +kernel
theorem dX2_renew_5 : decode cX2_renew 5 = .ok (.invokestatic 15, 3) := by decide +kernel
theorem dX2_renew_8 : decode cX2_renew 8 = .ok (.aload_n 0, 1) := by decide +kernel
theorem dX2_renew_9 : decode cX2_renew 9 = .ok (.iconst 1, 1) := by decide +kernel
theorem dX2_renew_10 : decode cX2_renew 10 = .ok (.putfield 21, 3) := by decide +kernel
theorem dX2_renew_13 : decode cX2_renew 13 = .ok (.aload_n 0, 1) := by decide +kernel
theorem dX2_renew_14 : decode cX2_renew 14 = .ok (.iload_n 1, 1) := by decide +kernel
theorem dX2_renew_15 : decode cX2_renew 15 = .ok (.putfield 25, 3) := by decide +kernel
theorem dX2_renew_18 : decode cX2_renew 18 = .ok (.aload_n 0, 1) := by decide +kernel
theorem dX2_renew_19 : decode cX2_renew 19 = .ok (.iload_n 2, 1) := by decide +kernel
theorem dX2_renew_20 : decode cX2_renew 20 = .ok (.putfield 29, 3) := by decide +kernel
theorem dX2_renew_23 : decode cX2_renew 23 = .ok (.return_, 1) := by decide +kernel
theorem dX2_tearAt_0 : decode cX2_tearAt 0 = .ok (.aload_n 0, 1) := by decide +kernel
theorem dX2_tearAt_1 : decode cX2_tearAt 1 = .ok (.getfield 21, 3) := by decide +kernel
theorem dX2_tearAt_4 : decode cX2_tearAt 4 = .ok (.ifCond .ne 5, 3) := by decide +kernel
theorem dX2_tearAt_7 : decode cX2_tearAt 7 = .ok (.iconst 1, 1) := by decide +kernel
theorem dX2_tearAt_8 : decode cX2_tearAt 8 = .ok (.ireturn, 1) := by decide +kernel
theorem dX2_tearAt_9 : decode cX2_tearAt 9 = .ok (.aload_n 0, 1) := by decide +kernel
theorem dX2_tearAt_10 : decode cX2_tearAt 10 = .ok (.getfield 25, 3) := by decide +kernel
theorem dX2_tearAt_13 : decode cX2_tearAt 13 = .ok (.iload_n 1, 1) := by decide +kernel
theorem dX2_tearAt_14 : decode cX2_tearAt 14 = .ok (.if_icmp .eq 5, 3) := by decide +kernel
theorem dX2_tearAt_17 : decode cX2_tearAt 17 = .ok (.iconst 3, 1) := by decide +kernel
theorem dX2_tearAt_18 : decode cX2_tearAt 18 = .ok (.ireturn, 1) := by decide +kernel
theorem dX2_tearAt_19 : decode cX2_tearAt 19 = .ok (.iload_n 2, 1) := by decide +kernel
theorem dX2_tearAt_20 : decode cX2_tearAt 20 = .ok (.iconst 0, 1) := by decide +kernel
theorem dX2_tearAt_21 : decode cX2_tearAt 21 = .ok (.aload_n 0, 1) := by decide +kernel
theorem dX2_tearAt_22 : decode cX2_tearAt 22 = .ok (.getfield 29, 3) := by decide +kernel
theorem dX2_tearAt_25 : decode cX2_tearAt 25 = .ok (.iconst 1, 1) := by decide +kernel
theorem dX2_tearAt_26 : decode cX2_tearAt 26 = .ok (.isub, 1) := by decide +kernel
theorem dX2_tearAt_27 : decode cX2_tearAt 27 = .ok (.invokestatic 32, 3) := by decide +kernel
theorem dX2_tearAt_30 : decode cX2_tearAt 30 = .ok (.ifCond .eq 7, 3) := by decide +kernel
theorem dX2_tearAt_33 : decode cX2_tearAt 33 = .ok (.iconst 2, 1) := by decide +kernel
theorem dX2_tearAt_34 : decode cX2_tearAt 34 = .ok (.goto 4, 3) := by decide +kernel
theorem dX2_tearAt_37 : decode cX2_tearAt 37 = .ok (.iconst 0, 1) := by decide +kernel
theorem dX2_tearAt_38 : decode cX2_tearAt 38 = .ok (.ireturn, 1) := by decide +kernel
theorem dX2_tearOfPair_0 : decode cX2_tearOfPair 0 = .ok (.aload_n 0, 1) := by decide +kernel
theorem dX2_tearOfPair_1 : decode cX2_tearOfPair 1 = .ok (.iload_n 1, 1) := by decide +kernel
theorem dX2_tearOfPair_2 : decode cX2_tearOfPair 2 = .ok (.iload_n 2, 1) := by decide +kernel
theorem dX2_tearOfPair_3 : decode cX2_tearOfPair 3 = .ok (.invokevirtual 36, 3) := by decide +kernel
theorem dX2_tearOfPair_6 : decode cX2_tearOfPair 6 = .ok (.istore_n 3, 1) := by decide +kernel
theorem dX2_tearOfPair_7 : decode cX2_tearOfPair 7 = .ok (.iload_n 3, 1) := by decide +kernel
theorem dX2_tearOfPair_8 : decode cX2_tearOfPair 8 = .ok (.ifCond .eq 7, 3) := by decide +kernel
theorem dX2_tearOfPair_11 : decode cX2_tearOfPair 11 = .ok (.iload_n 3, 1) := by decide +kernel
theorem dX2_tearOfPair_12 : decode cX2_tearOfPair 12 = .ok (.goto 11, 3) := by decide +kernel
theorem dX2_tearOfPair_15 : decode cX2_tearOfPair 15 = .ok (.aload_n 0, 1) := by decide +kernel
theorem dX2_tearOfPair_16 : decode cX2_tearOfPair 16 = .ok (.iload_n 1, 1) := by decide +kernel
theorem dX2_tearOfPair_17 : decode cX2_tearOfPair 17 = .ok (.iload_n 2, 1) := by decide +kernel
theorem dX2_tearOfPair_18 : decode cX2_tearOfPair 18 = .ok (.iconst 1, 1) := by decide +kernel
theorem dX2_tearOfPair_19 : decode cX2_tearOfPair 19 = .ok (.iadd, 1) := by decide +kernel
theorem dX2_tearOfPair_20 : decode cX2_tearOfPair 20 = .ok (.invokevirtual 36, 3) := by decide +kernel
theorem dX2_tearOfPair_23 : decode cX2_tearOfPair 23 = .ok (.ireturn, 1) := by decide +kernel
theorem dX2_cellAt_0 : decode cX2_cellAt 0 = .ok (.iload_n 1, 1) := by decide +kernel
theorem dX2_cellAt_1 : decode cX2_cellAt 1 = .ok (.iconst 0, 1) := by decide +kernel
theorem dX2_cellAt_2 : decode cX2_cellAt 2 = .ok (.bipush 39, 2) := by decide +kernel
theorem dX2_cellAt_4 : decode cX2_cellAt 4 = .ok (.invokestatic 32, 3) := by decide +kernel
theorem dX2_cellAt_7 : decode cX2_cellAt 7 = .ok (.ifCond .eq 7, 3) := by decide +kernel
theorem dX2_cellAt_10 : decode cX2_cellAt 10 = .ok (.iconst 0, 1) := by decide +kernel
theorem dX2_cellAt_11 : decode cX2_cellAt 11 = .ok (.goto 9, 3) := by decide +kernel
theorem dX2_cellAt_14 : decode cX2_cellAt 14 = .ok (.aload_n 0, 1) := by decide +kernel
theorem dX2_cellAt_15 : decode cX2_cellAt 15 = .ok (.getfield 9, 3) := by decide +kernel
theorem dX2_cellAt_18 : decode cX2_cellAt 18 = .ok (.iload_n 1, 1) := by decide +kernel
theorem dX2_cellAt_19 : decode cX2_cellAt 19 = .ok (.iaload, 1) := by decide +kernel
theorem dX2_cellAt_20 : decode cX2_cellAt 20 = .ok (.ireturn, 1) := by decide +kernel
theorem dX2_put_0 : decode cX2_put 0 = .ok (.iload_n 1, 1) := by decide +kernel
theorem dX2_put_1 : decode cX2_put 1 = .ok (.iconst 0, 1) := by decide +kernel
theorem dX2_put_2 : decode cX2_put 2 = .ok (.bipush 39, 2) := by decide +kernel
theorem dX2_put_4 : decode cX2_put 4 = .ok (.invokestatic 32, 3) := by decide +kernel
theorem dX2_put_7 : decode cX2_put 7 = .ok (.ifCond .eq 4, 3) := by decide +kernel
theorem dX2_put_10 : decode cX2_put 10 = .ok (.return_, 1) := by decide +kernel
theorem dX2_put_11 : decode cX2_put 11 = .ok (.aload_n 0, 1) := by decide +kernel
theorem dX2_put_12 : decode cX2_put 12 = .ok (.getfield 25, 3) := by decide +kernel
theorem dX2_put_15 : decode cX2_put 15 = .ok (.lookupswitch 47 #[(0, 25), (1, 36)], 25) := by decide +kernel
theorem dX2_put_40 : decode cX2_put 40 = .ok (.aload_n 0, 1) := by decide +kernel
theorem dX2_put_41 : decode cX2_put 41 = .ok (.getfield 9, 3) := by decide +kernel
theorem dX2_put_44 : decode cX2_put 44 = .ok (.iload_n 1, 1) := by decide +kernel
theorem dX2_put_45 : decode cX2_put 45 = .ok (.iload_n 2, 1) := by decide +kernel
theorem dX2_put_46 : decode cX2_put 46 = .ok (.i2b, 1) := by decide +kernel
theorem dX2_put_47 : decode cX2_put 47 = .ok (.iastore, 1) := by decide +kernel
theorem dX2_put_48 : decode cX2_put 48 = .ok (.goto 21, 3) := by decide +kernel
theorem dX2_put_51 : decode cX2_put 51 = .ok (.aload_n 0, 1) := by decide +kernel
theorem dX2_put_52 : decode cX2_put 52 = .ok (.getfield 9, 3) := by decide +kernel
theorem dX2_put_55 : decode cX2_put 55 = .ok (.iload_n 1, 1) := by decide +kernel
theorem dX2_put_56 : decode cX2_put 56 = .ok (.iload_n 2, 1) := by decide +kernel
theorem dX2_put_57 : decode cX2_put 57 = .ok (.i2s, 1) := by decide +kernel
theorem dX2_put_58 : decode cX2_put 58 = .ok (.iastore, 1) := by decide +kernel
theorem dX2_put_59 : decode cX2_put 59 = .ok (.goto 10, 3) := by decide +kernel
theorem dX2_put_62 : decode cX2_put 62 = .ok (.aload_n 0, 1) := by decide +kernel
theorem dX2_put_63 : decode cX2_put 63 = .ok (.getfield 9, 3) := by decide +kernel
theorem dX2_put_66 : decode cX2_put 66 = .ok (.iload_n 1, 1) := by decide +kernel
theorem dX2_put_67 : decode cX2_put 67 = .ok (.iload_n 2, 1) := by decide +kernel
theorem dX2_put_68 : decode cX2_put 68 = .ok (.iastore, 1) := by decide +kernel
theorem dX2_put_69 : decode cX2_put 69 = .ok (.return_, 1) := by decide +kernel
theorem dX3_init_0 : decode cX3_init 0 = .ok (.aload_n 0, 1) := by decide +kernel
theorem dX3_init_1 : decode cX3_init 1 = .ok (.invokespecial 3, 3) := by decide +kernel
theorem dX3_init_4 : decode cX3_init 4 = .ok (.aload_n 0, 1) := by decide +kernel
theorem dX3_init_5 : decode cX3_init 5 = .ok (.bipush 6, 2) := by decide +kernel
theorem dX3_init_7 : decode cX3_init 7 = .ok (.newarray .int, 2) := by decide +kernel
theorem dX3_init_9 : decode cX3_init 9 = .ok (.putfield 9, 3) := by decide +kernel
theorem dX3_init_12 : decode cX3_init 12 = .ok (.aload_n 0, 1) := by decide +kernel
theorem dX3_init_13 : decode cX3_init 13 = .ok (.bipush 6, 2) := by decide +kernel
theorem dX3_init_15 : decode cX3_init 15 = .ok (.newarray .int, 2) := by decide +kernel
theorem dX3_init_17 : decode cX3_init 17 = .ok (.putfield 15, 3) := by decide +kernel
theorem dX3_init_20 : decode cX3_init 20 = .ok (.aload_n 0, 1) := by decide +kernel
theorem dX3_init_21 : decode cX3_init 21 = .ok (.bipush 6, 2) := by decide +kernel
theorem dX3_init_23 : decode cX3_init 23 = .ok (.newarray .int, 2) := by decide +kernel
theorem dX3_init_25 : decode cX3_init 25 = .ok (.putfield 18, 3) := by decide +kernel
theorem dX3_init_28 : decode cX3_init 28 = .ok (.return_, 1) := by decide +kernel
theorem dX3_append_0 : decode cX3_append 0 = .ok (.aload_n 0, 1) := by decide +kernel
theorem dX3_append_1 : decode cX3_append 1 = .ok (.getfield 21, 3) := by decide +kernel
theorem dX3_append_4 : decode cX3_append 4 = .ok (.bipush 6, 2) := by decide +kernel
theorem dX3_append_6 : decode cX3_append 6 = .ok (.if_icmp .lt 5, 3) := by decide +kernel
theorem dX3_append_9 : decode cX3_append 9 = .ok (.iconst 0, 1) := by decide +kernel
theorem dX3_append_10 : decode cX3_append 10 = .ok (.ireturn, 1) := by decide +kernel
theorem dX3_append_11 : decode cX3_append 11 = .ok (.aload_n 0, 1) := by decide +kernel
theorem dX3_append_12 : decode cX3_append 12 = .ok (.getfield 9, 3) := by decide +kernel
theorem dX3_append_15 : decode cX3_append 15 = .ok (.aload_n 0, 1) := by decide +kernel
theorem dX3_append_16 : decode cX3_append 16 = .ok (.getfield 21, 3) := by decide +kernel
theorem dX3_append_19 : decode cX3_append 19 = .ok (.iload_n 1, 1) := by decide +kernel
theorem dX3_append_20 : decode cX3_append 20 = .ok (.iastore, 1) := by decide +kernel
theorem dX3_append_21 : decode cX3_append 21 = .ok (.aload_n 0, 1) := by decide +kernel
theorem dX3_append_22 : decode cX3_append 22 = .ok (.getfield 15, 3) := by decide +kernel
theorem dX3_append_25 : decode cX3_append 25 = .ok (.aload_n 0, 1) := by decide +kernel
theorem dX3_append_26 : decode cX3_append 26 = .ok (.getfield 21, 3) := by decide +kernel
theorem dX3_append_29 : decode cX3_append 29 = .ok (.iload_n 2, 1) := by decide +kernel
theorem dX3_append_30 : decode cX3_append 30 = .ok (.iastore, 1) := by decide +kernel
theorem dX3_append_31 : decode cX3_append 31 = .ok (.aload_n 0, 1) := by decide +kernel
theorem dX3_append_32 : decode cX3_append 32 = .ok (.getfield 18, 3) := by decide +kernel
theorem dX3_append_35 : decode cX3_append 35 = .ok (.aload_n 0, 1) := by decide +kernel
theorem dX3_append_36 : decode cX3_append 36 = .ok (.getfield 21, 3) := by decide +kernel
theorem dX3_append_39 : decode cX3_append 39 = .ok (.iload_n 3, 1) := by decide +kernel
theorem dX3_append_40 : decode cX3_append 40 = .ok (.iastore, 1) := by decide +kernel
theorem dX3_append_41 : decode cX3_append 41 = .ok (.aload_n 0, 1) := by decide +kernel
theorem dX3_append_42 : decode cX3_append 42 = .ok (.dup, 1) := by decide +kernel
theorem dX3_append_43 : decode cX3_append 43 = .ok (.getfield 21, 3) := by decide +kernel
theorem dX3_append_46 : decode cX3_append 46 = .ok (.iconst 1, 1) := by decide +kernel
theorem dX3_append_47 : decode cX3_append 47 = .ok (.iadd, 1) := by decide +kernel
theorem dX3_append_48 : decode cX3_append 48 = .ok (.putfield 21, 3) := by decide +kernel
theorem dX3_append_51 : decode cX3_append 51 = .ok (.iconst 1, 1) := by decide +kernel
theorem dX3_append_52 : decode cX3_append 52 = .ok (.ireturn, 1) := by decide +kernel
theorem dX3_becomeLike_0 : decode cX3_becomeLike 0 = .ok (.aload_n 1, 1) := by decide +kernel
theorem dX3_becomeLike_1 : decode cX3_becomeLike 1 = .ok (.getfield 9, 3) := by decide +kernel
theorem dX3_becomeLike_4 : decode cX3_becomeLike 4 = .ok (.iconst 0, 1) := by decide +kernel
theorem dX3_becomeLike_5 : decode cX3_becomeLike 5 = .ok (.aload_n 0, 1) := by decide +kernel
theorem dX3_becomeLike_6 : decode cX3_becomeLike 6 = .ok (.getfield 9, 3) := by decide +kernel
theorem dX3_becomeLike_9 : decode cX3_becomeLike 9 = .ok (.iconst 0, 1) := by decide +kernel
theorem dX3_becomeLike_10 : decode cX3_becomeLike 10 = .ok (.bipush 6, 2) := by decide +kernel
theorem dX3_becomeLike_12 : decode cX3_becomeLike 12 = .ok (.invokestatic 25, 3) := by decide +kernel
theorem dX3_becomeLike_15 : decode cX3_becomeLike 15 = .ok (.aload_n 1, 1) := by decide +kernel
theorem dX3_becomeLike_16 : decode cX3_becomeLike 16 = .ok (.getfield 15, 3) := by decide +kernel
theorem dX3_becomeLike_19 : decode cX3_becomeLike 19 = .ok (.iconst 0, 1) := by decide +kernel
theorem dX3_becomeLike_20 : decode cX3_becomeLike 20 = .ok (.aload_n 0, 1) := by decide +kernel
theorem dX3_becomeLike_21 : decode cX3_becomeLike 21 = .ok (.getfield 15, 3) := by decide +kernel
theorem dX3_becomeLike_24 : decode cX3_becomeLike 24 = .ok (.iconst 0, 1) := by decide +kernel
theorem dX3_becomeLike_25 : decode cX3_becomeLike 25 = .ok (.bipush 6, 2) := by decide +kernel
theorem dX3_becomeLike_27 : decode cX3_becomeLike 27 = .ok (.invokestatic 25, 3) := by decide +kernel
theorem dX3_becomeLike_30 : decode cX3_becomeLike 30 = .ok (.aload_n 1, 1) := by decide +kernel
theorem dX3_becomeLike_31 : decode cX3_becomeLike 31 = .ok (.getfield 18, 3) := by decide +kernel
theorem dX3_becomeLike_34 : decode cX3_becomeLike 34 = .ok (.iconst 0, 1) := by decide +kernel
theorem dX3_becomeLike_35 : decode cX3_becomeLike 35 = .ok (.aload_n 0, 1) := by decide +kernel
theorem dX3_becomeLike_36 : decode cX3_becomeLike 36 = .ok (.getfield 18, 3) := by decide +kernel
theorem dX3_becomeLike_39 : decode cX3_becomeLike 39 = .ok (.iconst 0, 1) := by decide +kernel
theorem dX3_becomeLike_40 : decode cX3_becomeLike 40 = .ok (.bipush 6, 2) := by decide +kernel
theorem dX3_becomeLike_42 : decode cX3_becomeLike 42 = .ok (.invokestatic 25, 3) := by decide +kernel
theorem dX3_becomeLike_45 : decode cX3_becomeLike 45 = .ok (.aload_n 0, 1) := by decide +kernel
theorem dX3_becomeLike_46 : decode cX3_becomeLike 46 = .ok (.aload_n 1, 1) := by decide +kernel
theorem dX3_becomeLike_47 : decode cX3_becomeLike 47 = .ok (.getfield 21, 3) := by decide +kernel
theorem dX3_becomeLike_50 : decode cX3_becomeLike 50 = .ok (.putfield 21, 3) := by decide +kernel
theorem dX3_becomeLike_53 : decode cX3_becomeLike 53 = .ok (.return_, 1) := by decide +kernel
theorem dX3_mostNights_0 : decode cX3_mostNights 0 = .ok (.iconst 0, 1) := by decide +kernel
theorem dX3_mostNights_1 : decode cX3_mostNights 1 = .ok (.istore_n 1, 1) := by decide +kernel
theorem dX3_mostNights_2 : decode cX3_mostNights 2 = .ok (.iconst 0, 1) := by decide +kernel
theorem dX3_mostNights_3 : decode cX3_mostNights 3 = .ok (.istore_n 2, 1) := by decide +kernel
theorem dX3_mostNights_4 : decode cX3_mostNights 4 = .ok (.iload_n 2, 1) := by decide +kernel
theorem dX3_mostNights_5 : decode cX3_mostNights 5 = .ok (.aload_n 0, 1) := by decide +kernel
theorem dX3_mostNights_6 : decode cX3_mostNights 6 = .ok (.getfield 21, 3) := by decide +kernel
theorem dX3_mostNights_9 : decode cX3_mostNights 9 = .ok (.if_icmp .ge 20, 3) := by decide +kernel
theorem dX3_mostNights_12 : decode cX3_mostNights 12 = .ok (.iload_n 1, 1) := by decide +kernel
theorem dX3_mostNights_13 : decode cX3_mostNights 13 = .ok (.aload_n 0, 1) := by decide +kernel
theorem dX3_mostNights_14 : decode cX3_mostNights 14 = .ok (.getfield 15, 3) := by decide +kernel
theorem dX3_mostNights_17 : decode cX3_mostNights 17 = .ok (.iload_n 2, 1) := by decide +kernel
theorem dX3_mostNights_18 : decode cX3_mostNights 18 = .ok (.iaload, 1) := by decide +kernel
theorem dX3_mostNights_19 : decode cX3_mostNights 19 = .ok (.invokestatic 31, 3) := by decide +kernel
theorem dX3_mostNights_22 : decode cX3_mostNights 22 = .ok (.istore_n 1, 1) := by decide +kernel
theorem dX3_mostNights_23 : decode cX3_mostNights 23 = .ok (.iinc 2 1, 3) := by decide +kernel
theorem dX3_mostNights_26 : decode cX3_mostNights 26 = .ok (.goto (-22), 3) := by decide +kernel
theorem dX3_mostNights_29 : decode cX3_mostNights 29 = .ok (.iload_n 1, 1) := by decide +kernel
theorem dX3_mostNights_30 : decode cX3_mostNights 30 = .ok (.ireturn, 1) := by decide +kernel
theorem dX3_agreesWith_0 : decode cX3_agreesWith 0 = .ok (.iconst 0, 1) := by decide +kernel
theorem dX3_agreesWith_1 : decode cX3_agreesWith 1 = .ok (.istore_n 2, 1) := by decide +kernel
theorem dX3_agreesWith_2 : decode cX3_agreesWith 2 = .ok (.iload_n 2, 1) := by decide +kernel
theorem dX3_agreesWith_3 : decode cX3_agreesWith 3 = .ok (.aload_n 0, 1) := by decide +kernel
theorem dX3_agreesWith_4 : decode cX3_agreesWith 4 = .ok (.getfield 21, 3) := by decide +kernel
theorem dX3_agreesWith_7 : decode cX3_agreesWith 7 = .ok (.if_icmp .ge 37, 3) := by decide +kernel
theorem dX3_agreesWith_10 : decode cX3_agreesWith 10 = .ok (.aload_n 1, 1) := by decide +kernel
theorem dX3_agreesWith_11 : decode cX3_agreesWith 11 = .ok (.aload_n 0, 1) := by decide +kernel
theorem dX3_agreesWith_12 : decode cX3_agreesWith 12 = .ok (.getfield 9, 3) := by decide +kernel
theorem dX3_agreesWith_15 : decode cX3_agreesWith 15 = .ok (.iload_n 2, 1) := by decide +kernel
theorem dX3_agreesWith_16 : decode cX3_agreesWith 16 = .ok (.iaload, 1) := by decide +kernel
theorem dX3_agreesWith_17 : decode cX3_agreesWith 17 = .ok (.aload_n 0, 1) := by decide +kernel
theorem dX3_agreesWith_18 : decode cX3_agreesWith 18 = .ok (.getfield 15, 3) := by decide +kernel
theorem dX3_agreesWith_21 : decode cX3_agreesWith 21 = .ok (.iload_n 2, 1) := by decide +kernel
theorem dX3_agreesWith_22 : decode cX3_agreesWith 22 = .ok (.iaload, 1) := by decide +kernel
theorem dX3_agreesWith_23 : decode cX3_agreesWith 23 = .ok (.invokestatic 37, 3) := by decide +kernel
theorem dX3_agreesWith_26 : decode cX3_agreesWith 26 = .ok (.iaload, 1) := by decide +kernel
theorem dX3_agreesWith_27 : decode cX3_agreesWith 27 = .ok (.aload_n 0, 1) := by decide +kernel
theorem dX3_agreesWith_28 : decode cX3_agreesWith 28 = .ok (.getfield 18, 3) := by decide +kernel
theorem dX3_agreesWith_31 : decode cX3_agreesWith 31 = .ok (.iload_n 2, 1) := by decide +kernel
theorem dX3_agreesWith_32 : decode cX3_agreesWith 32 = .ok (.iaload, 1) := by decide +kernel
theorem dX3_agreesWith_33 : decode cX3_agreesWith 33 = .ok (.if_icmp .eq 5, 3) := by decide +kernel
theorem dX3_agreesWith_36 : decode cX3_agreesWith 36 = .ok (.iconst 0, 1) := by decide +kernel
theorem dX3_agreesWith_37 : decode cX3_agreesWith 37 = .ok (.ireturn, 1) := by decide +kernel
theorem dX3_agreesWith_38 : decode cX3_agreesWith 38 = .ok (.iinc 2 1, 3) := by decide +kernel
theorem dX3_agreesWith_41 : decode cX3_agreesWith 41 = .ok (.goto (-39), 3) := by decide +kernel
theorem dX3_agreesWith_44 : decode cX3_agreesWith 44 = .ok (.iconst 1, 1) := by decide +kernel
theorem dX3_agreesWith_45 : decode cX3_agreesWith 45 = .ok (.ireturn, 1) := by decide +kernel
theorem dX4_init_0 : decode cX4_init 0 = .ok (.aload_n 0, 1) := by decide +kernel
theorem dX4_init_1 : decode cX4_init 1 = .ok (.invokespecial 3, 3) := by decide +kernel
theorem dX4_init_4 : decode cX4_init 4 = .ok (.aload_n 0, 1) := by decide +kernel
theorem dX4_init_5 : decode cX4_init 5 = .ok (.sipush 160, 3) := by decide +kernel
theorem dX4_init_8 : decode cX4_init 8 = .ok (.newarray .byte, 2) := by decide +kernel
theorem dX4_init_10 : decode cX4_init 10 = .ok (.putfield 9, 3) := by decide +kernel
theorem dX4_init_13 : decode cX4_init 13 = .ok (.return_, 1) := by decide +kernel
theorem dX4_append_0 : decode cX4_append 0 = .ok (.aload_n 0, 1) := by decide +kernel
theorem dX4_append_1 : decode cX4_append 1 = .ok (.getfield 15, 3) := by decide +kernel
theorem dX4_append_4 : decode cX4_append 4 = .ok (.sipush 160, 3) := by decide +kernel
theorem dX4_append_7 : decode cX4_append 7 = .ok (.if_icmp .lt 5, 3) := by decide +kernel
theorem dX4_append_10 : decode cX4_append 10 = .ok (.iconst 0, 1) := by decide +kernel
theorem dX4_append_11 : decode cX4_append 11 = .ok (.ireturn, 1) := by decide +kernel
theorem dX4_append_12 : decode cX4_append 12 = .ok (.aload_n 0, 1) := by decide +kernel
theorem dX4_append_13 : decode cX4_append 13 = .ok (.getfield 9, 3) := by decide +kernel
theorem dX4_append_16 : decode cX4_append 16 = .ok (.aload_n 0, 1) := by decide +kernel
theorem dX4_append_17 : decode cX4_append 17 = .ok (.getfield 15, 3) := by decide +kernel
theorem dX4_append_20 : decode cX4_append 20 = .ok (.iload_n 1, 1) := by decide +kernel
theorem dX4_append_21 : decode cX4_append 21 = .ok (.i2b, 1) := by decide +kernel
theorem dX4_append_22 : decode cX4_append 22 = .ok (.bastore, 1) := by decide +kernel
theorem dX4_append_23 : decode cX4_append 23 = .ok (.aload_n 0, 1) := by decide +kernel
theorem dX4_append_24 : decode cX4_append 24 = .ok (.dup, 1) := by decide +kernel
theorem dX4_append_25 : decode cX4_append 25 = .ok (.getfield 15, 3) := by decide +kernel
theorem dX4_append_28 : decode cX4_append 28 = .ok (.iconst 1, 1) := by decide +kernel
theorem dX4_append_29 : decode cX4_append 29 = .ok (.iadd, 1) := by decide +kernel
theorem dX4_append_30 : decode cX4_append 30 = .ok (.putfield 15, 3) := by decide +kernel
theorem dX4_append_33 : decode cX4_append 33 = .ok (.iconst 1, 1) := by decide +kernel
theorem dX4_append_34 : decode cX4_append 34 = .ok (.ireturn, 1) := by decide +kernel
theorem dX4_rewind_0 : decode cX4_rewind 0 = .ok (.aload_n 0, 1) := by decide +kernel
theorem dX4_rewind_1 : decode cX4_rewind 1 = .ok (.iconst 0, 1) := by decide +kernel
theorem dX4_rewind_2 : decode cX4_rewind 2 = .ok (.putfield 19, 3) := by decide +kernel
theorem dX4_rewind_5 : decode cX4_rewind 5 = .ok (.aload_n 0, 1) := by decide +kernel
theorem dX4_rewind_6 : decode cX4_rewind 6 = .ok (.iconst 0, 1) := by decide +kernel
theorem dX4_rewind_7 : decode cX4_rewind 7 = .ok (.putfield 22, 3) := by decide +kernel
theorem dX4_rewind_10 : decode cX4_rewind 10 = .ok (.return_, 1) := by decide +kernel
theorem dX4_takeToken_0 : decode cX4_takeToken 0 = .ok (.aload_n 0, 1) := by decide +kernel
theorem dX4_takeToken_1 : decode cX4_takeToken 1 = .ok (.getfield 19, 3) := by decide +kernel
theorem dX4_takeToken_4 : decode cX4_takeToken 4 = .ok (.aload_n 0, 1) := by decide +kernel
theorem dX4_takeToken_5 : decode cX4_takeToken 5 = .ok (.getfield 15, 3) := by decide +kernel
theorem dX4_takeToken_8 : decode cX4_takeToken 8 = .ok (.if_icmp .ge 28, 3) := by decide +kernel
theorem dX4_takeToken_11 : decode cX4_takeToken 11 = .ok (.aload_n 0, 1) := by decide +kernel
theorem dX4_takeToken_12 : decode cX4_takeToken 12 = .ok (.aload_n 0, 1) := by decide +kernel
theorem dX4_takeToken_13 : decode cX4_takeToken 13 = .ok (.getfield 19, 3) := by decide +kernel
theorem dX4_takeToken_16 : decode cX4_takeToken 16 = .ok (.invokevirtual 25, 3) := by decide +kernel
theorem dX4_takeToken_19 : decode cX4_takeToken 19 = .ok (.iconst 5, 1) := by decide +kernel
theorem dX4_takeToken_20 : decode cX4_takeToken 20 = .ok (.if_icmp .ne 16, 3) := by decide +kernel
theorem dX4_takeToken_23 : decode cX4_takeToken 23 = .ok (.aload_n 0, 1) := by decide +kernel
theorem dX4_takeToken_24 : decode cX4_takeToken 24 = .ok (.dup, 1) := by decide +kernel
theorem dX4_takeToken_25 : decode cX4_takeToken 25 = .ok (.getfield 19, 3) := by decide +kernel
theorem dX4_takeToken_28 : decode cX4_takeToken 28 = .ok (.iconst 1, 1) := by decide +kernel
theorem dX4_takeToken_29 : decode cX4_takeToken 29 = .ok (.iadd, 1) := by decide +kernel
theorem dX4_takeToken_30 : decode cX4_takeToken 30 = .ok (.putfield 19, 3) := by decide +kernel
theorem dX4_takeToken_33 : decode cX4_takeToken 33 = .ok (.goto (-33), 3) := by decide +kernel
theorem dX4_takeToken_36 : decode cX4_takeToken 36 = .ok (.aload_n 0, 1) := by decide +kernel
theorem dX4_takeToken_37 : decode cX4_takeToken 37 = .ok (.aload_n 0, 1) := by decide +kernel
theorem dX4_takeToken_38 : decode cX4_takeToken 38 = .ok (.getfield 19, 3) := by decide +kernel
theorem dX4_takeToken_41 : decode cX4_takeToken 41 = .ok (.putfield 22, 3) := by decide +kernel
theorem dX4_takeToken_44 : decode cX4_takeToken 44 = .ok (.aload_n 0, 1) := by decide +kernel
theorem dX4_takeToken_45 : decode cX4_takeToken 45 = .ok (.aload_n 0, 1) := by decide +kernel
theorem dX4_takeToken_46 : decode cX4_takeToken 46 = .ok (.getfield 22, 3) := by decide +kernel
theorem dX4_takeToken_49 : decode cX4_takeToken 49 = .ok (.invokevirtual 25, 3) := by decide +kernel
theorem dX4_takeToken_52 : decode cX4_takeToken 52 = .ok (.istore_n 1, 1) := by decide +kernel
theorem dX4_takeToken_53 : decode cX4_takeToken 53 = .ok (.iload_n 1, 1) := by decide +kernel
theorem dX4_takeToken_54 : decode cX4_takeToken 54 = .ok (.ifCond .ne 5, 3) := by decide +kernel
theorem dX4_takeToken_57 : decode cX4_takeToken 57 = .ok (.iconst 0, 1) := by decide +kernel
theorem dX4_takeToken_58 : decode cX4_takeToken 58 = .ok (.ireturn, 1) := by decide +kernel
theorem dX4_takeToken_59 : decode cX4_takeToken 59 = .ok (.aload_n 0, 1) := by decide +kernel
theorem dX4_takeToken_60 : decode cX4_takeToken 60 = .ok (.dup, 1) := by decide +kernel
theorem dX4_takeToken_61 : decode cX4_takeToken 61 = .ok (.getfield 19, 3) := by decide +kernel
theorem dX4_takeToken_64 : decode cX4_takeToken 64 = .ok (.iconst 1, 1) := by decide +kernel
theorem dX4_takeToken_65 : decode cX4_takeToken 65 = .ok (.iadd, 1) := by decide +kernel
theorem dX4_takeToken_66 : decode cX4_takeToken 66 = .ok (.putfield 19, 3) := by decide +kernel
theorem dX4_takeToken_69 : decode cX4_takeToken 69 = .ok (.iload_n 1, 1) := by decide +kernel
theorem dX4_takeToken_70 : decode cX4_takeToken 70 = .ok (.iconst 1, 1) := by decide +kernel
theorem dX4_takeToken_71 : decode cX4_takeToken 71 = .ok (.if_icmp .eq 8, 3) := by decide +kernel
theorem dX4_takeToken_74 : decode cX4_takeToken 74 = .ok (.iload_n 1, 1) := by decide +kernel
theorem dX4_takeToken_75 : decode cX4_takeToken 75 = .ok (.iconst 2, 1) := by decide +kernel
theorem dX4_takeToken_76 : decode cX4_takeToken 76 = .ok (.if_icmp .ne 39, 3) := by decide +kernel
theorem dX4_takeToken_79 : decode cX4_takeToken 79 = .ok (.aload_n 0, 1) := by decide +kernel
theorem dX4_takeToken_80 : decode cX4_takeToken 80 = .ok (.getfield 19, 3) := by decide +kernel
theorem dX4_takeToken_83 : decode cX4_takeToken 83 = .ok (.aload_n 0, 1) := by decide +kernel
theorem dX4_takeToken_84 : decode cX4_takeToken 84 = .ok (.getfield 15, 3) := by decide +kernel
theorem dX4_takeToken_87 : decode cX4_takeToken 87 = .ok (.if_icmp .ge 28, 3) := by decide +kernel
theorem dX4_takeToken_90 : decode cX4_takeToken 90 = .ok (.aload_n 0, 1) := by decide +kernel
theorem dX4_takeToken_91 : decode cX4_takeToken 91 = .ok (.aload_n 0, 1) := by decide +kernel
theorem dX4_takeToken_92 : decode cX4_takeToken 92 = .ok (.getfield 19, 3) := by decide +kernel
theorem dX4_takeToken_95 : decode cX4_takeToken 95 = .ok (.invokevirtual 25, 3) := by decide +kernel
theorem dX4_takeToken_98 : decode cX4_takeToken 98 = .ok (.iload_n 1, 1) := by decide +kernel
theorem dX4_takeToken_99 : decode cX4_takeToken 99 = .ok (.if_icmp .ne 16, 3) := by decide +kernel
theorem dX4_takeToken_102 : decode cX4_takeToken 102 = .ok (.aload_n 0, 1) := by decide +kernel
theorem dX4_takeToken_103 : decode cX4_takeToken 103 = .ok (.dup, 1) := by decide +kernel
theorem dX4_takeToken_104 : decode cX4_takeToken 104 = .ok (.getfield 19, 3) := by decide +kernel
theorem dX4_takeToken_107 : decode cX4_takeToken 107 = .ok (.iconst 1, 1) := by decide +kernel
theorem dX4_takeToken_108 : decode cX4_takeToken 108 = .ok (.iadd, 1) := by decide +kernel
theorem dX4_takeToken_109 : decode cX4_takeToken 109 = .ok (.putfield 19, 3) := by decide +kernel
theorem dX4_takeToken_112 : decode cX4_takeToken 112 = .ok (.goto (-33), 3) := by decide +kernel
theorem dX4_takeToken_115 : decode cX4_takeToken 115 = .ok (.iload_n 1, 1) := by decide +kernel
theorem dX4_takeToken_116 : decode cX4_takeToken 116 = .ok (.iconst 2, 1) := by decide +kernel
theorem dX4_takeToken_117 : decode cX4_takeToken 117 = .ok (.if_icmp .ne 20, 3) := by decide +kernel
theorem dX4_takeToken_120 : decode cX4_takeToken 120 = .ok (.aload_n 0, 1) := by decide +kernel
theorem dX4_takeToken_121 : decode cX4_takeToken 121 = .ok (.getfield 19, 3) := by decide +kernel
theorem dX4_takeToken_124 : decode cX4_takeToken 124 = .ok (.aload_n 0, 1) := by decide +kernel
theorem dX4_takeToken_125 : decode cX4_takeToken 125 = .ok (.getfield 22, 3) := by decide +kernel
theorem dX4_takeToken_128 : decode cX4_takeToken 128 = .ok (.isub, 1) := by decide +kernel
theorem dX4_takeToken_129 : decode cX4_takeToken 129 = .ok (.iconst 2, 1) := by decide +kernel
theorem dX4_takeToken_130 : decode cX4_takeToken 130 = .ok (.if_icmp .le 7, 3) := by decide +kernel
theorem dX4_takeToken_133 : decode cX4_takeToken 133 = .ok (.iconst 4, 1) := by decide +kernel
theorem dX4_takeToken_134 : decode cX4_takeToken 134 = .ok (.goto 4, 3) := by decide +kernel
theorem dX4_takeToken_137 : decode cX4_takeToken 137 = .ok (.iload_n 1, 1) := by decide +kernel
theorem dX4_takeToken_138 : decode cX4_takeToken 138 = .ok (.ireturn, 1) := by decide +kernel
theorem dX4_signAt_0 : decode cX4_signAt 0 = .ok (.iload_n 1, 1) := by decide +kernel
theorem dX4_signAt_1 : decode cX4_signAt 1 = .ok (.ifCond .lt 11, 3) := by decide +kernel
theorem dX4_signAt_4 : decode cX4_signAt 4 = .ok (.iload_n 1, 1) := by decide +kernel
theorem dX4_signAt_5 : decode cX4_signAt 5 = .ok (.aload_n 0, 1) := by decide +kernel
theorem dX4_signAt_6 : decode cX4_signAt 6 = .ok (.getfield 15, 3) := by decide +kernel
theorem dX4_signAt_9 : decode cX4_signAt 9 = .ok (.if_icmp .lt 5, 3) := by decide +kernel
theorem dX4_signAt_12 : decode cX4_signAt 12 = .ok (.iconst 0, 1) := by decide +kernel
theorem dX4_signAt_13 : decode cX4_signAt 13 = .ok (.ireturn, 1) := by decide +kernel
theorem dX4_signAt_14 : decode cX4_signAt 14 = .ok (.aload_n 0, 1) := by decide +kernel
theorem dX4_signAt_15 : decode cX4_signAt 15 = .ok (.getfield 9, 3) := by decide +kernel
theorem dX4_signAt_18 : decode cX4_signAt 18 = .ok (.iload_n 1, 1) := by decide +kernel
theorem dX4_signAt_19 : decode cX4_signAt 19 = .ok (.baload, 1) := by decide +kernel
theorem dX4_signAt_20 : decode cX4_signAt 20 = .ok (.istore_n 2, 1) := by decide +kernel
theorem dX4_signAt_21 : decode cX4_signAt 21 = .ok (.iload_n 2, 1) := by decide +kernel
theorem dX4_signAt_22 : decode cX4_signAt 22 = .ok (.bipush 32, 2) := by decide +kernel
theorem dX4_signAt_24 : decode cX4_signAt 24 = .ok (.if_icmp .ne 5, 3) := by decide +kernel
theorem dX4_signAt_27 : decode cX4_signAt 27 = .ok (.iconst 5, 1) := by decide +kernel
theorem dX4_signAt_28 : decode cX4_signAt 28 = .ok (.ireturn, 1) := by decide +kernel
theorem dX4_signAt_29 : decode cX4_signAt 29 = .ok (.iload_n 2, 1) := by decide +kernel
theorem dX4_signAt_30 : decode cX4_signAt 30 = .ok (.bipush 59, 2) := by decide +kernel
theorem dX4_signAt_32 : decode cX4_signAt 32 = .ok (.if_icmp .ne 5, 3) := by decide +kernel
theorem dX4_signAt_35 : decode cX4_signAt 35 = .ok (.iconst 3, 1) := by decide +kernel
theorem dX4_signAt_36 : decode cX4_signAt 36 = .ok (.ireturn, 1) := by decide +kernel
theorem dX4_signAt_37 : decode cX4_signAt 37 = .ok (.iload_n 2, 1) := by decide +kernel
theorem dX4_signAt_38 : decode cX4_signAt 38 = .ok (.bipush 97, 2) := by decide +kernel
theorem dX4_signAt_40 : decode cX4_signAt 40 = .ok (.if_icmp .lt 11, 3) := by decide +kernel
theorem dX4_signAt_43 : decode cX4_signAt 43 = .ok (.iload_n 2, 1) := by decide +kernel
theorem dX4_signAt_44 : decode cX4_signAt 44 = .ok (.bipush 122, 2) := by decide +kernel
theorem dX4_signAt_46 : decode cX4_signAt 46 = .ok (.if_icmp .gt 5, 3) := by decide +kernel
theorem dX4_signAt_49 : decode cX4_signAt 49 = .ok (.iconst 1, 1) := by decide +kernel
theorem dX4_signAt_50 : decode cX4_signAt 50 = .ok (.ireturn, 1) := by decide +kernel
theorem dX4_signAt_51 : decode cX4_signAt 51 = .ok (.iload_n 2, 1) := by decide +kernel
theorem dX4_signAt_52 : decode cX4_signAt 52 = .ok (.bipush 48, 2) := by decide +kernel
theorem dX4_signAt_54 : decode cX4_signAt 54 = .ok (.if_icmp .lt 13, 3) := by decide +kernel
theorem dX4_signAt_57 : decode cX4_signAt 57 = .ok (.iload_n 2, 1) := by decide +kernel
theorem dX4_signAt_58 : decode cX4_signAt 58 = .ok (.bipush 57, 2) := by decide +kernel
theorem dX4_signAt_60 : decode cX4_signAt 60 = .ok (.if_icmp .gt 7, 3) := by decide +kernel
theorem dX4_signAt_63 : decode cX4_signAt 63 = .ok (.iconst 2, 1) := by decide +kernel
theorem dX4_signAt_64 : decode cX4_signAt 64 = .ok (.goto 4, 3) := by decide +kernel
theorem dX4_signAt_67 : decode cX4_signAt 67 = .ok (.iconst 4, 1) := by decide +kernel
theorem dX4_signAt_68 : decode cX4_signAt 68 = .ok (.ireturn, 1) := by decide +kernel
theorem dX4_nameIs_0 : decode cX4_nameIs 0 = .ok (.aload_n 0, 1) := by decide +kernel
theorem dX4_nameIs_1 : decode cX4_nameIs 1 = .ok (.getfield 19, 3) := by decide +kernel
theorem dX4_nameIs_4 : decode cX4_nameIs 4 = .ok (.aload_n 0, 1) := by decide +kernel
theorem dX4_nameIs_5 : decode cX4_nameIs 5 = .ok (.getfield 22, 3) := by decide +kernel
theorem dX4_nameIs_8 : decode cX4_nameIs 8 = .ok (.isub, 1) := by decide +kernel
theorem dX4_nameIs_9 : decode cX4_nameIs 9 = .ok (.aload_n 1, 1) := by decide +kernel
theorem dX4_nameIs_10 : decode cX4_nameIs 10 = .ok (.invokevirtual 29, 3) := by decide +kernel
theorem dX4_nameIs_13 : decode cX4_nameIs 13 = .ok (.if_icmp .eq 5, 3) := by decide +kernel
theorem dX4_nameIs_16 : decode cX4_nameIs 16 = .ok (.iconst 0, 1) := by decide +kernel
theorem dX4_nameIs_17 : decode cX4_nameIs 17 = .ok (.ireturn, 1) := by decide +kernel
theorem dX4_nameIs_18 : decode cX4_nameIs 18 = .ok (.aload_n 0, 1) := by decide +kernel
theorem dX4_nameIs_19 : decode cX4_nameIs 19 = .ok (.getfield 22, 3) := by decide +kernel
theorem dX4_nameIs_22 : decode cX4_nameIs 22 = .ok (.istore_n 2, 1) := by decide +kernel
theorem dX4_nameIs_23 : decode cX4_nameIs 23 = .ok (.iload_n 2, 1) := by decide +kernel
theorem dX4_nameIs_24 : decode cX4_nameIs 24 = .ok (.aload_n 0, 1) := by decide +kernel
theorem dX4_nameIs_25 : decode cX4_nameIs 25 = .ok (.getfield 19, 3) := by decide +kernel
theorem dX4_nameIs_28 : decode cX4_nameIs 28 = .ok (.if_icmp .ge 30, 3) := by decide +kernel
theorem dX4_nameIs_31 : decode cX4_nameIs 31 = .ok (.aload_n 0, 1) := by decide +kernel
theorem dX4_nameIs_32 : decode cX4_nameIs 32 = .ok (.getfield 9, 3) := by decide +kernel
theorem dX4_nameIs_35 : decode cX4_nameIs 35 = .ok (.iload_n 2, 1) := by decide +kernel
theorem dX4_nameIs_36 : decode cX4_nameIs 36 = .ok (.baload, 1) := by decide +kernel
theorem dX4_nameIs_37 : decode cX4_nameIs 37 = .ok (.aload_n 1, 1) := by decide +kernel
theorem dX4_nameIs_38 : decode cX4_nameIs 38 = .ok (.iload_n 2, 1) := by decide +kernel
theorem dX4_nameIs_39 : decode cX4_nameIs 39 = .ok (.aload_n 0, 1) := by decide +kernel
theorem dX4_nameIs_40 : decode cX4_nameIs 40 = .ok (.getfield 22, 3) := by decide +kernel
theorem dX4_nameIs_43 : decode cX4_nameIs 43 = .ok (.isub, 1) := by decide +kernel
theorem dX4_nameIs_44 : decode cX4_nameIs 44 = .ok (.invokevirtual 34, 3) := by decide +kernel
theorem dX4_nameIs_47 : decode cX4_nameIs 47 = .ok (.if_icmp .eq 5, 3) := by decide +kernel
theorem dX4_nameIs_50 : decode cX4_nameIs 50 = .ok (.iconst 0, 1) := by decide +kernel
theorem dX4_nameIs_51 : decode cX4_nameIs 51 = .ok (.ireturn, 1) := by decide +kernel
theorem dX4_nameIs_52 : decode cX4_nameIs 52 = .ok (.iinc 2 1, 3) := by decide +kernel
theorem dX4_nameIs_55 : decode cX4_nameIs 55 = .ok (.goto (-32), 3) := by decide +kernel
theorem dX4_nameIs_58 : decode cX4_nameIs 58 = .ok (.iconst 1, 1) := by decide +kernel
theorem dX4_nameIs_59 : decode cX4_nameIs 59 = .ok (.ireturn, 1) := by decide +kernel
theorem dX4_number_0 : decode cX4_number 0 = .ok (.iconst 0, 1) := by decide +kernel
theorem dX4_number_1 : decode cX4_number 1 = .ok (.istore_n 1, 1) := by decide +kernel
theorem dX4_number_2 : decode cX4_number 2 = .ok (.aload_n 0, 1) := by decide +kernel
theorem dX4_number_3 : decode cX4_number 3 = .ok (.getfield 22, 3) := by decide +kernel
theorem dX4_number_6 : decode cX4_number 6 = .ok (.istore_n 2, 1) := by decide +kernel
theorem dX4_number_7 : decode cX4_number 7 = .ok (.iload_n 2, 1) := by decide +kernel
theorem dX4_number_8 : decode cX4_number 8 = .ok (.aload_n 0, 1) := by decide +kernel
theorem dX4_number_9 : decode cX4_number 9 = .ok (.getfield 19, 3) := by decide +kernel
theorem dX4_number_12 : decode cX4_number 12 = .ok (.if_icmp .ge 24, 3) := by decide +kernel
theorem dX4_number_15 : decode cX4_number 15 = .ok (.bipush 10, 2) := by decide +kernel
theorem dX4_number_17 : decode cX4_number 17 = .ok (.iload_n 1, 1) := by decide +kernel
theorem dX4_number_18 : decode cX4_number 18 = .ok (.imul, 1) := by decide +kernel
theorem dX4_number_19 : decode cX4_number 19 = .ok (.aload_n 0, 1) := by decide +kernel
theorem dX4_number_20 : decode cX4_number 20 = .ok (.getfield 9, 3) := by decide +kernel
theorem dX4_number_23 : decode cX4_number 23 = .ok (.iload_n 2, 1) := by decide +kernel
theorem dX4_number_24 : decode cX4_number 24 = .ok (.baload, 1) := by decide +kernel
theorem dX4_number_25 : decode cX4_number 25 = .ok (.iadd, 1) := by decide +kernel
theorem dX4_number_26 : decode cX4_number 26 = .ok (.bipush 48, 2) := by decide +kernel
theorem dX4_number_28 : decode cX4_number 28 = .ok (.isub, 1) := by decide +kernel
theorem dX4_number_29 : decode cX4_number 29 = .ok (.istore_n 1, 1) := by decide +kernel
theorem dX4_number_30 : decode cX4_number 30 = .ok (.iinc 2 1, 3) := by decide +kernel
theorem dX4_number_33 : decode cX4_number 33 = .ok (.goto (-26), 3) := by decide +kernel
theorem dX4_number_36 : decode cX4_number 36 = .ok (.iload_n 1, 1) := by decide +kernel
theorem dX4_number_37 : decode cX4_number 37 = .ok (.ireturn, 1) := by decide +kernel
end
section
theorem dX5_init_0 : decode cX5_init 0 = .ok (.aload_n 0, 1) := by decide +kernel
theorem dX5_init_1 : decode cX5_init 1 = .ok (.invokespecial 3, 3) := by decide +kernel
theorem dX5_init_4 : decode cX5_init 4 = .ok (.aload_n 0, 1) := by decide +kernel
theorem dX5_init_5 : decode cX5_init 5 = .ok (.new 9, 3) := by decide +kernel
theorem dX5_init_8 : decode cX5_init 8 = .ok (.dup, 1) := by decide +kernel
theorem dX5_init_9 : decode cX5_init 9 = .ok (.invokespecial 11, 3) := by decide +kernel
theorem dX5_init_12 : decode cX5_init 12 = .ok (.putfield 12, 3) := by decide +kernel
theorem dX5_init_15 : decode cX5_init 15 = .ok (.aload_n 0, 1) := by decide +kernel
theorem dX5_init_16 : decode cX5_init 16 = .ok (.new 18, 3) := by decide +kernel
theorem dX5_init_19 : decode cX5_init 19 = .ok (.dup, 1) := by decide +kernel
theorem dX5_init_20 : decode cX5_init 20 = .ok (.invokespecial 20, 3) := by decide +kernel
theorem dX5_init_23 : decode cX5_init 23 = .ok (.putfield 21, 3) := by decide +kernel
theorem dX5_init_26 : decode cX5_init 26 = .ok (.aload_n 0, 1) := by decide +kernel
theorem dX5_init_27 : decode cX5_init 27 = .ok (.iconst 4, 1) := by decide +kernel
theorem dX5_init_28 : decode cX5_init 28 = .ok (.newarray .int, 2) := by decide +kernel
theorem dX5_init_30 : decode cX5_init 30 = .ok (.putfield 25, 3) := by decide +kernel
theorem dX5_init_33 : decode cX5_init 33 = .ok (.aload_n 0, 1) := by decide +kernel
theorem dX5_init_34 : decode cX5_init 34 = .ok (.iconst 4, 1) := by decide +kernel
theorem dX5_init_35 : decode cX5_init 35 = .ok (.newarray .int, 2) := by decide +kernel
theorem dX5_init_37 : decode cX5_init 37 = .ok (.putfield 29, 3) := by decide +kernel
theorem dX5_init_40 : decode cX5_init 40 = .ok (.return_, 1) := by decide +kernel
theorem dX5_takeText_0 : decode cX5_takeText 0 = .ok (.aload_n 0, 1) := by decide +kernel
theorem dX5_takeText_1 : decode cX5_takeText 1 = .ok (.getfield 12, 3) := by decide +kernel
theorem dX5_takeText_4 : decode cX5_takeText 4 = .ok (.invokevirtual 32, 3) := by decide +kernel
theorem dX5_takeText_7 : decode cX5_takeText 7 = .ok (.aload_n 0, 1) := by decide +kernel
theorem dX5_takeText_8 : decode cX5_takeText 8 = .ok (.getfield 21, 3) := by decide +kernel
theorem dX5_takeText_11 : decode cX5_takeText 11 = .ok (.invokevirtual 35, 3) := by decide +kernel
theorem dX5_takeText_14 : decode cX5_takeText 14 = .ok (.aload_n 0, 1) := by decide +kernel
theorem dX5_takeText_15 : decode cX5_takeText 15 = .ok (.iconst 0, 1) := by decide +kernel
theorem dX5_takeText_16 : decode cX5_takeText 16 = .ok (.putfield 38, 3) := by decide +kernel
theorem dX5_takeText_19 : decode cX5_takeText 19 = .ok (.aload_n 0, 1) := by decide +kernel
theorem dX5_takeText_20 : decode cX5_takeText 20 = .ok (.iconst 0, 1) := by decide +kernel
theorem dX5_takeText_21 : decode cX5_takeText 21 = .ok (.putfield 42, 3) := by decide +kernel
theorem dX5_takeText_24 : decode cX5_takeText 24 = .ok (.aload_n 0, 1) := by decide +kernel
theorem dX5_takeText_25 : decode cX5_takeText 25 = .ok (.iconst 0, 1) := by decide +kernel
theorem dX5_takeText_26 : decode cX5_takeText 26 = .ok (.putfield 46, 3) := by decide +kernel
theorem dX5_takeText_29 : decode cX5_takeText 29 = .ok (.aload_n 0, 1) := by decide +kernel
theorem dX5_takeText_30 : decode cX5_takeText 30 = .ok (.iconst 0, 1) := by decide +kernel
theorem dX5_takeText_31 : decode cX5_takeText 31 = .ok (.putfield 49, 3) := by decide +kernel
theorem dX5_takeText_34 : decode cX5_takeText 34 = .ok (.aload_n 0, 1) := by decide +kernel
theorem dX5_takeText_35 : decode cX5_takeText 35 = .ok (.getfield 12, 3) := by decide +kernel
theorem dX5_takeText_38 : decode cX5_takeText 38 = .ok (.invokevirtual 52, 3) := by decide +kernel
theorem dX5_takeText_41 : decode cX5_takeText 41 = .ok (.istore_n 1, 1) := by decide +kernel
theorem dX5_takeText_42 : decode cX5_takeText 42 = .ok (.iconst 0, 1) := by decide +kernel
theorem dX5_takeText_43 : decode cX5_takeText 43 = .ok (.istore_n 2, 1) := by decide +kernel
theorem dX5_takeText_44 : decode cX5_takeText 44 = .ok (.iload_n 2, 1) := by decide +kernel
theorem dX5_takeText_45 : decode cX5_takeText 45 = .ok (.sipush 160, 3) := by decide +kernel
theorem dX5_takeText_48 : decode cX5_takeText 48 = .ok (.if_icmp .ge 50, 3) := by decide +kernel
theorem dX5_takeText_51 : decode cX5_takeText 51 = .ok (.aload_n 0, 1) := by decide +kernel
theorem dX5_takeText_52 : decode cX5_takeText 52 = .ok (.getfield 49, 3) := by decide +kernel
theorem dX5_takeText_55 : decode cX5_takeText 55 = .ok (.ifCond .ne 43, 3) := by decide +kernel
theorem dX5_takeText_58 : decode cX5_takeText 58 = .ok (.iload_n 1, 1) := by decide +kernel
theorem dX5_takeText_59 : decode cX5_takeText 59 = .ok (.ifCond .eq 39, 3) := by decide +kernel
theorem dX5_takeText_62 : decode cX5_takeText 62 = .ok (.aload_n 0, 1) := by decide +kernel
theorem dX5_takeText_63 : decode cX5_takeText 63 = .ok (.iload_n 1, 1) := by decide +kernel
theorem dX5_takeText_64 : decode cX5_takeText 64 = .ok (.invokevirtual 56, 3) := by decide +kernel
theorem dX5_takeText_67 : decode cX5_takeText 67 = .ok (.aload_n 0, 1) := by decide +kernel
theorem dX5_takeText_68 : decode cX5_takeText 68 = .ok (.getfield 49, 3) := by decide +kernel
theorem dX5_takeText_71 : decode cX5_takeText 71 = .ok (.ifCond .ne 21, 3) := by decide +kernel
theorem dX5_takeText_74 : decode cX5_takeText 74 = .ok (.aload_n 0, 1) := by decide +kernel
theorem dX5_takeText_75 : decode cX5_takeText 75 = .ok (.dup, 1) := by decide +kernel
theorem dX5_takeText_76 : decode cX5_takeText 76 = .ok (.getfield 46, 3) := by decide +kernel
theorem dX5_takeText_79 : decode cX5_takeText 79 = .ok (.iconst 1, 1) := by decide +kernel
theorem dX5_takeText_80 : decode cX5_takeText 80 = .ok (.iadd, 1) := by decide +kernel
theorem dX5_takeText_81 : decode cX5_takeText 81 = .ok (.putfield 46, 3) := by decide +kernel
theorem dX5_takeText_84 : decode cX5_takeText 84 = .ok (.aload_n 0, 1) := by decide +kernel
theorem dX5_takeText_85 : decode cX5_takeText 85 = .ok (.getfield 12, 3) := by decide +kernel
theorem dX5_takeText_88 : decode cX5_takeText 88 = .ok (.invokevirtual 52, 3) := by decide +kernel
theorem dX5_takeText_91 : decode cX5_takeText 91 = .ok (.istore_n 1, 1) := by decide +kernel
theorem dX5_takeText_92 : decode cX5_takeText 92 = .ok (.iinc 2 1, 3) := by decide +kernel
theorem dX5_takeText_95 : decode cX5_takeText 95 = .ok (.goto (-51), 3) := by decide +kernel
theorem dX5_takeText_98 : decode cX5_takeText 98 = .ok (.aload_n 0, 1) := by decide +kernel
theorem dX5_takeText_99 : decode cX5_takeText 99 = .ok (.getfield 49, 3) := by decide +kernel
theorem dX5_takeText_102 : decode cX5_takeText 102 = .ok (.ifCond .ne 7, 3) := by decide +kernel
theorem dX5_takeText_105 : decode cX5_takeText 105 = .ok (.aload_n 0, 1) := by decide +kernel
theorem dX5_takeText_106 : decode cX5_takeText 106 = .ok (.invokevirtual 60, 3) := by decide +kernel
theorem dX5_takeText_109 : decode cX5_takeText 109 = .ok (.aload_n 0, 1) := by decide +kernel
theorem dX5_takeText_110 : decode cX5_takeText 110 = .ok (.getfield 49, 3) := by decide +kernel
theorem dX5_takeText_113 : decode cX5_takeText 113 = .ok (.ifCond .ne 7, 3) := by decide +kernel
theorem dX5_takeText_116 : decode cX5_takeText 116 = .ok (.aload_n 0, 1) := by decide +kernel
theorem dX5_takeText_117 : decode cX5_takeText 117 = .ok (.invokevirtual 63, 3) := by decide +kernel
theorem dX5_takeText_120 : decode cX5_takeText 120 = .ok (.return_, 1) := by decide +kernel
theorem dX5_fail_0 : decode cX5_fail 0 = .ok (.aload_n 0, 1) := by decide +kernel
theorem dX5_fail_1 : decode cX5_fail 1 = .ok (.getfield 49, 3) := by decide +kernel
theorem dX5_fail_4 : decode cX5_fail 4 = .ok (.ifCond .ne 13, 3) := by decide +kernel
theorem dX5_fail_7 : decode cX5_fail 7 = .ok (.aload_n 0, 1) := by decide +kernel
theorem dX5_fail_8 : decode cX5_fail 8 = .ok (.iload_n 1, 1) := by decide +kernel
theorem dX5_fail_9 : decode cX5_fail 9 = .ok (.putfield 49, 3) := by decide +kernel
theorem dX5_fail_12 : decode cX5_fail 12 = .ok (.aload_n 0, 1) := by decide +kernel
theorem dX5_fail_13 : decode cX5_fail 13 = .ok (.iload_n 2, 1) := by decide +kernel
theorem dX5_fail_14 : decode cX5_fail 14 = .ok (.putfield 66, 3) := by decide +kernel
theorem dX5_fail_17 : decode cX5_fail 17 = .ok (.return_, 1) := by decide +kernel
theorem dX5_refuseToken_0 : decode cX5_refuseToken 0 = .ok (.aload_n 0, 1) := by decide +kernel
theorem dX5_refuseToken_1 : decode cX5_refuseToken 1 = .ok (.iload_n 1, 1) := by decide +kernel
theorem dX5_refuseToken_2 : decode cX5_refuseToken 2 = .ok (.iconst 4, 1) := by decide +kernel
theorem dX5_refuseToken_3 : decode cX5_refuseToken 3 = .ok (.if_icmp .ne 7, 3) := by decide +kernel
theorem dX5_refuseToken_6 : decode cX5_refuseToken 6 = .ok (.iconst 1, 1) := by decide +kernel
theorem dX5_refuseToken_7 : decode cX5_refuseToken 7 = .ok (.goto 4, 3) := by decide +kernel
theorem dX5_refuseToken_10 : decode cX5_refuseToken 10 = .ok (.iconst 2, 1) := by decide +kernel
theorem dX5_refuseToken_11 : decode cX5_refuseToken 11 = .ok (.aload_n 0, 1) := by decide +kernel
theorem dX5_refuseToken_12 : decode cX5_refuseToken 12 = .ok (.getfield 12, 3) := by decide +kernel
theorem dX5_refuseToken_15 : decode cX5_refuseToken 15 = .ok (.getfield 69, 3) := by decide +kernel
theorem dX5_refuseToken_18 : decode cX5_refuseToken 18 = .ok (.invokevirtual 72, 3) := by decide +kernel
theorem dX5_refuseToken_21 : decode cX5_refuseToken 21 = .ok (.return_, 1) := by decide +kernel
theorem dX5_takeLine_0 : decode cX5_takeLine 0 = .ok (.iload_n 1, 1) := by decide +kernel
theorem dX5_takeLine_1 : decode cX5_takeLine 1 = .ok (.iconst 1, 1) := by decide +kernel
theorem dX5_takeLine_2 : decode cX5_takeLine 2 = .ok (.if_icmp .ne 10, 3) := by decide +kernel
theorem dX5_takeLine_5 : decode cX5_takeLine 5 = .ok (.aload_n 0, 1) := by decide +kernel
theorem dX5_takeLine_6 : decode cX5_takeLine 6 = .ok (.invokevirtual 76, 3) := by decide +kernel
theorem dX5_takeLine_9 : decode cX5_takeLine 9 = .ok (.goto 5, 3) := by decide +kernel
theorem dX5_takeLine_12 : decode cX5_takeLine 12 = .ok (.bipush 7, 2) := by decide +kernel
theorem dX5_takeLine_14 : decode cX5_takeLine 14 = .ok (.istore_n 2, 1) := by decide +kernel
theorem dX5_takeLine_15 : decode cX5_takeLine 15 = .ok (.iload_n 2, 1) := by decide +kernel
theorem dX5_takeLine_16 : decode cX5_takeLine 16 = .ok (.tableswitch 61 4 7 #[40, 47, 54, 32], 32) := by decide +kernel
theorem dX5_takeLine_48 : decode cX5_takeLine 48 = .ok (.aload_n 0, 1) := by decide +kernel
theorem dX5_takeLine_49 : decode cX5_takeLine 49 = .ok (.iload_n 1, 1) := by decide +kernel
theorem dX5_takeLine_50 : decode cX5_takeLine 50 = .ok (.invokevirtual 79, 3) := by decide +kernel
theorem dX5_takeLine_53 : decode cX5_takeLine 53 = .ok (.goto 29, 3) := by decide +kernel
theorem dX5_takeLine_56 : decode cX5_takeLine 56 = .ok (.aload_n 0, 1) := by decide +kernel
theorem dX5_takeLine_57 : decode cX5_takeLine 57 = .ok (.invokevirtual 82, 3) := by decide +kernel
theorem dX5_takeLine_60 : decode cX5_takeLine 60 = .ok (.goto 22, 3) := by decide +kernel
theorem dX5_takeLine_63 : decode cX5_takeLine 63 = .ok (.aload_n 0, 1) := by decide +kernel
theorem dX5_takeLine_64 : decode cX5_takeLine 64 = .ok (.invokevirtual 85, 3) := by decide +kernel
theorem dX5_takeLine_67 : decode cX5_takeLine 67 = .ok (.goto 15, 3) := by decide +kernel
theorem dX5_takeLine_70 : decode cX5_takeLine 70 = .ok (.aload_n 0, 1) := by decide +kernel
theorem dX5_takeLine_71 : decode cX5_takeLine 71 = .ok (.invokevirtual 88, 3) := by decide +kernel
theorem dX5_takeLine_74 : decode cX5_takeLine 74 = .ok (.goto 8, 3) := by decide +kernel
theorem dX5_takeLine_77 : decode cX5_takeLine 77 = .ok (.aload_n 0, 1) := by decide +kernel
theorem dX5_takeLine_78 : decode cX5_takeLine 78 = .ok (.iload_n 2, 1) := by decide +kernel
theorem dX5_takeLine_79 : decode cX5_takeLine 79 = .ok (.invokevirtual 91, 3) := by decide +kernel
theorem dX5_takeLine_82 : decode cX5_takeLine 82 = .ok (.aload_n 0, 1) := by decide +kernel
theorem dX5_takeLine_83 : decode cX5_takeLine 83 = .ok (.getfield 49, 3) := by decide +kernel
theorem dX5_takeLine_86 : decode cX5_takeLine 86 = .ok (.ifCond .ne 7, 3) := by decide +kernel
theorem dX5_takeLine_89 : decode cX5_takeLine 89 = .ok (.aload_n 0, 1) := by decide +kernel
theorem dX5_takeLine_90 : decode cX5_takeLine 90 = .ok (.invokevirtual 94, 3) := by decide +kernel
theorem dX5_takeLine_93 : decode cX5_takeLine 93 = .ok (.return_, 1) := by decide +kernel
theorem dX5_takeStop_0 : decode cX5_takeStop 0 = .ok (.aload_n 0, 1) := by decide +kernel
theorem dX5_takeStop_1 : decode cX5_takeStop 1 = .ok (.getfield 12, 3) := by decide +kernel
theorem dX5_takeStop_4 : decode cX5_takeStop 4 = .ok (.invokevirtual 52, 3) := by decide +kernel
theorem dX5_takeStop_7 : decode cX5_takeStop 7 = .ok (.istore_n 1, 1) := by decide +kernel
theorem dX5_takeStop_8 : decode cX5_takeStop 8 = .ok (.iload_n 1, 1) := by decide +kernel
theorem dX5_takeStop_9 : decode cX5_takeStop 9 = .ok (.iconst 3, 1) := by decide +kernel
theorem dX5_takeStop_10 : decode cX5_takeStop 10 = .ok (.if_icmp .eq 8, 3) := by decide +kernel
theorem dX5_takeStop_13 : decode cX5_takeStop 13 = .ok (.aload_n 0, 1) := by decide +kernel
theorem dX5_takeStop_14 : decode cX5_takeStop 14 = .ok (.iload_n 1, 1) := by decide +kernel
theorem dX5_takeStop_15 : decode cX5_takeStop 15 = .ok (.invokevirtual 79, 3) := by decide +kernel
theorem dX5_takeStop_18 : decode cX5_takeStop 18 = .ok (.return_, 1) := by decide +kernel
theorem dX5_lineByName_0 : decode cX5_lineByName 0 = .ok (.aload_n 0, 1) := by decide +kernel
theorem dX5_lineByName_1 : decode cX5_lineByName 1 = .ok (.getfield 12, 3) := by decide +kernel
theorem dX5_lineByName_4 : decode cX5_lineByName 4 = .ok (.ldc 97, 2) := by decide +kernel
theorem dX5_lineByName_6 : decode cX5_lineByName 6 = .ok (.invokevirtual 99, 3) := by decide +kernel
theorem dX5_lineByName_9 : decode cX5_lineByName 9 = .ok (.ifCond .eq 5, 3) := by decide +kernel
theorem dX5_lineByName_12 : decode cX5_lineByName 12 = .ok (.iconst 0, 1) := by decide +kernel
theorem dX5_lineByName_13 : decode cX5_lineByName 13 = .ok (.ireturn, 1) := by decide +kernel
theorem dX5_lineByName_14 : decode cX5_lineByName 14 = .ok (.aload_n 0, 1) := by decide +kernel
theorem dX5_lineByName_15 : decode cX5_lineByName 15 = .ok (.getfield 12, 3) := by decide +kernel
theorem dX5_lineByName_18 : decode cX5_lineByName 18 = .ok (.ldc 103, 2) := by decide +kernel
theorem dX5_lineByName_20 : decode cX5_lineByName 20 = .ok (.invokevirtual 99, 3) := by decide +kernel
theorem dX5_lineByName_23 : decode cX5_lineByName 23 = .ok (.ifCond .eq 5, 3) := by decide +kernel
theorem dX5_lineByName_26 : decode cX5_lineByName 26 = .ok (.iconst 1, 1) := by decide +kernel
theorem dX5_lineByName_27 : decode cX5_lineByName 27 = .ok (.ireturn, 1) := by decide +kernel
theorem dX5_lineByName_28 : decode cX5_lineByName 28 = .ok (.aload_n 0, 1) := by decide +kernel
theorem dX5_lineByName_29 : decode cX5_lineByName 29 = .ok (.getfield 12, 3) := by decide +kernel
theorem dX5_lineByName_32 : decode cX5_lineByName 32 = .ok (.ldc 105, 2) := by decide +kernel
theorem dX5_lineByName_34 : decode cX5_lineByName 34 = .ok (.invokevirtual 99, 3) := by decide +kernel
theorem dX5_lineByName_37 : decode cX5_lineByName 37 = .ok (.ifCond .eq 5, 3) := by decide +kernel
theorem dX5_lineByName_40 : decode cX5_lineByName 40 = .ok (.iconst 2, 1) := by decide +kernel
theorem dX5_lineByName_41 : decode cX5_lineByName 41 = .ok (.ireturn, 1) := by decide +kernel
theorem dX5_lineByName_42 : decode cX5_lineByName 42 = .ok (.aload_n 0, 1) := by decide +kernel
theorem dX5_lineByName_43 : decode cX5_lineByName 43 = .ok (.getfield 12, 3) := by decide +kernel
theorem dX5_lineByName_46 : decode cX5_lineByName 46 = .ok (.ldc 107, 2) := by decide +kernel
theorem dX5_lineByName_48 : decode cX5_lineByName 48 = .ok (.invokevirtual 99, 3) := by decide +kernel
theorem dX5_lineByName_51 : decode cX5_lineByName 51 = .ok (.ifCond .eq 5, 3) := by decide +kernel
theorem dX5_lineByName_54 : decode cX5_lineByName 54 = .ok (.iconst 3, 1) := by decide +kernel
theorem dX5_lineByName_55 : decode cX5_lineByName 55 = .ok (.ireturn, 1) := by decide +kernel
theorem dX5_lineByName_56 : decode cX5_lineByName 56 = .ok (.aload_n 0, 1) := by decide +kernel
theorem dX5_lineByName_57 : decode cX5_lineByName 57 = .ok (.getfield 12, 3) := by decide +kernel
theorem dX5_lineByName_60 : decode cX5_lineByName 60 = .ok (.ldc 109, 2) := by decide +kernel
theorem dX5_lineByName_62 : decode cX5_lineByName 62 = .ok (.invokevirtual 99, 3) := by decide +kernel
theorem dX5_lineByName_65 : decode cX5_lineByName 65 = .ok (.ifCond .eq 5, 3) := by decide +kernel
theorem dX5_lineByName_68 : decode cX5_lineByName 68 = .ok (.iconst 4, 1) := by decide +kernel
theorem dX5_lineByName_69 : decode cX5_lineByName 69 = .ok (.ireturn, 1) := by decide +kernel
theorem dX5_lineByName_70 : decode cX5_lineByName 70 = .ok (.aload_n 0, 1) := by decide +kernel
theorem dX5_lineByName_71 : decode cX5_lineByName 71 = .ok (.getfield 12, 3) := by decide +kernel
theorem dX5_lineByName_74 : decode cX5_lineByName 74 = .ok (.ldc 111, 2) := by decide +kernel
theorem dX5_lineByName_76 : decode cX5_lineByName 76 = .ok (.invokevirtual 99, 3) := by decide +kernel
theorem dX5_lineByName_79 : decode cX5_lineByName 79 = .ok (.ifCond .eq 5, 3) := by decide +kernel
theorem dX5_lineByName_82 : decode cX5_lineByName 82 = .ok (.iconst 5, 1) := by decide +kernel
theorem dX5_lineByName_83 : decode cX5_lineByName 83 = .ok (.ireturn, 1) := by decide +kernel
theorem dX5_lineByName_84 : decode cX5_lineByName 84 = .ok (.aload_n 0, 1) := by decide +kernel
theorem dX5_lineByName_85 : decode cX5_lineByName 85 = .ok (.getfield 12, 3) := by decide +kernel
theorem dX5_lineByName_88 : decode cX5_lineByName 88 = .ok (.ldc 113, 2) := by decide +kernel
theorem dX5_lineByName_90 : decode cX5_lineByName 90 = .ok (.invokevirtual 99, 3) := by decide +kernel
theorem dX5_lineByName_93 : decode cX5_lineByName 93 = .ok (.ifCond .eq 8, 3) := by decide +kernel
theorem dX5_lineByName_96 : decode cX5_lineByName 96 = .ok (.bipush 6, 2) := by decide +kernel
theorem dX5_lineByName_98 : decode cX5_lineByName 98 = .ok (.goto 5, 3) := by decide +kernel
theorem dX5_lineByName_101 : decode cX5_lineByName 101 = .ok (.bipush 7, 2) := by decide +kernel
theorem dX5_lineByName_103 : decode cX5_lineByName 103 = .ok (.ireturn, 1) := by decide +kernel
theorem dX5_takeNumber_0 : decode cX5_takeNumber 0 = .ok (.aload_n 0, 1) := by decide +kernel
theorem dX5_takeNumber_1 : decode cX5_takeNumber 1 = .ok (.getfield 49, 3) := by decide +kernel
theorem dX5_takeNumber_4 : decode cX5_takeNumber 4 = .ok (.ifCond .eq 5, 3) := by decide +kernel
theorem dX5_takeNumber_7 : decode cX5_takeNumber 7 = .ok (.iload_n 1, 1) := by decide +kernel
theorem dX5_takeNumber_8 : decode cX5_takeNumber 8 = .ok (.ireturn, 1) := by decide +kernel
theorem dX5_takeNumber_9 : decode cX5_takeNumber 9 = .ok (.aload_n 0, 1) := by decide +kernel
theorem dX5_takeNumber_10 : decode cX5_takeNumber 10 = .ok (.getfield 12, 3) := by decide +kernel
theorem dX5_takeNumber_13 : decode cX5_takeNumber 13 = .ok (.invokevirtual 52, 3) := by decide +kernel
theorem dX5_takeNumber_16 : decode cX5_takeNumber 16 = .ok (.istore_n 3, 1) := by decide +kernel
theorem dX5_takeNumber_17 : decode cX5_takeNumber 17 = .ok (.iload_n 3, 1) := by decide +kernel
theorem dX5_takeNumber_18 : decode cX5_takeNumber 18 = .ok (.iconst 2, 1) := by decide +kernel
theorem dX5_takeNumber_19 : decode cX5_takeNumber 19 = .ok (.if_icmp .eq 10, 3) := by decide +kernel
theorem dX5_takeNumber_22 : decode cX5_takeNumber 22 = .ok (.aload_n 0, 1) := by decide +kernel
theorem dX5_takeNumber_23 : decode cX5_takeNumber 23 = .ok (.iload_n 3, 1) := by decide +kernel
theorem dX5_takeNumber_24 : decode cX5_takeNumber 24 = .ok (.invokevirtual 79, 3) := by decide +kernel
theorem dX5_takeNumber_27 : decode cX5_takeNumber 27 = .ok (.iload_n 1, 1) := by decide +kernel
theorem dX5_takeNumber_28 : decode cX5_takeNumber 28 = .ok (.ireturn, 1) := by decide +kernel
theorem dX5_takeNumber_29 : decode cX5_takeNumber 29 = .ok (.aload_n 0, 1) := by decide +kernel
theorem dX5_takeNumber_30 : decode cX5_takeNumber 30 = .ok (.getfield 12, 3) := by decide +kernel
theorem dX5_takeNumber_33 : decode cX5_takeNumber 33 = .ok (.invokevirtual 115, 3) := by decide +kernel
theorem dX5_takeNumber_36 : decode cX5_takeNumber 36 = .ok (.istore 4, 2) := by decide +kernel
theorem dX5_takeNumber_38 : decode cX5_takeNumber 38 = .ok (.iload 4, 2) := by decide +kernel
theorem dX5_takeNumber_40 : decode cX5_takeNumber 40 = .ok (.iload_n 1, 1) := by decide +kernel
theorem dX5_takeNumber_41 : decode cX5_takeNumber 41 = .ok (.iload_n 2, 1) := by decide +kernel
theorem dX5_takeNumber_42 : decode cX5_takeNumber 42 = .ok (.invokestatic 118, 3) := by decide +kernel
theorem dX5_takeNumber_45 : decode cX5_takeNumber 45 = .ok (.ifCond .eq 17, 3) := by decide +kernel
theorem dX5_takeNumber_48 : decode cX5_takeNumber 48 = .ok (.aload_n 0, 1) := by decide +kernel
theorem dX5_takeNumber_49 : decode cX5_takeNumber 49 = .ok (.iconst 3, 1) := by decide +kernel
theorem dX5_takeNumber_50 : decode cX5_takeNumber 50 = .ok (.aload_n 0, 1) := by decide +kernel
theorem dX5_takeNumber_51 : decode cX5_takeNumber 51 = .ok (.getfield 12, 3) := by decide +kernel
theorem dX5_takeNumber_54 : decode cX5_takeNumber 54 = .ok (.getfield 69, 3) := by decide +kernel
theorem dX5_takeNumber_57 : decode cX5_takeNumber 57 = .ok (.invokevirtual 72, 3) := by decide +kernel
theorem dX5_takeNumber_60 : decode cX5_takeNumber 60 = .ok (.iload_n 1, 1) := by decide +kernel
theorem dX5_takeNumber_61 : decode cX5_takeNumber 61 = .ok (.ireturn, 1) := by decide +kernel
theorem dX5_takeNumber_62 : decode cX5_takeNumber 62 = .ok (.iload 4, 2) := by decide +kernel
theorem dX5_takeNumber_64 : decode cX5_takeNumber 64 = .ok (.ireturn, 1) := by decide +kernel
theorem dX5_takeHouse_0 : decode cX5_takeHouse 0 = .ok (.aload_n 0, 1) := by decide +kernel
theorem dX5_takeHouse_1 : decode cX5_takeHouse 1 = .ok (.getfield 21, 3) := by decide +kernel
theorem dX5_takeHouse_4 : decode cX5_takeHouse 4 = .ok (.getfield 122, 3) := by decide +kernel
theorem dX5_takeHouse_7 : decode cX5_takeHouse 7 = .ok (.iconst 5, 1) := by decide +kernel
theorem dX5_takeHouse_8 : decode cX5_takeHouse 8 = .ok (.if_icmp .lt 16, 3) := by decide +kernel
theorem dX5_takeHouse_11 : decode cX5_takeHouse 11 = .ok (.aload_n 0, 1) := by decide +kernel
theorem dX5_takeHouse_12 : decode cX5_takeHouse 12 = .ok (.iconst 5, 1) := by decide +kernel
theorem dX5_takeHouse_13 : decode cX5_takeHouse 13 = .ok (.aload_n 0, 1) := by decide +kernel
theorem dX5_takeHouse_14 : decode cX5_takeHouse 14 = .ok (.getfield 12, 3) := by decide +kernel
theorem dX5_takeHouse_17 : decode cX5_takeHouse 17 = .ok (.getfield 69, 3) := by decide +kernel
theorem dX5_takeHouse_20 : decode cX5_takeHouse 20 = .ok (.invokevirtual 72, 3) := by decide +kernel
theorem dX5_takeHouse_23 : decode cX5_takeHouse 23 = .ok (.return_, 1) := by decide +kernel
theorem dX5_takeHouse_24 : decode cX5_takeHouse 24 = .ok (.aload_n 0, 1) := by decide +kernel
theorem dX5_takeHouse_25 : decode cX5_takeHouse 25 = .ok (.getfield 21, 3) := by decide +kernel
theorem dX5_takeHouse_28 : decode cX5_takeHouse 28 = .ok (.iload_n 1, 1) := by decide +kernel
theorem dX5_takeHouse_29 : decode cX5_takeHouse 29 = .ok (.aload_n 0, 1) := by decide +kernel
theorem dX5_takeHouse_30 : decode cX5_takeHouse 30 = .ok (.iconst 0, 1) := by decide +kernel
theorem dX5_takeHouse_31 : decode cX5_takeHouse 31 = .ok (.bipush 99, 2) := by decide +kernel
theorem dX5_takeHouse_33 : decode cX5_takeHouse 33 = .ok (.invokevirtual 125, 3) := by decide +kernel
theorem dX5_takeHouse_36 : decode cX5_takeHouse 36 = .ok (.invokevirtual 129, 3) := by decide +kernel
theorem dX5_takeHouse_39 : decode cX5_takeHouse 39 = .ok (.return_, 1) := by decide +kernel
theorem dX5_takeFire_0 : decode cX5_takeFire 0 = .ok (.aload_n 0, 1) := by decide +kernel
theorem dX5_takeFire_1 : decode cX5_takeFire 1 = .ok (.getfield 42, 3) := by decide +kernel
theorem dX5_takeFire_4 : decode cX5_takeFire 4 = .ok (.ifCond .eq 16, 3) := by decide +kernel
theorem dX5_takeFire_7 : decode cX5_takeFire 7 = .ok (.aload_n 0, 1) := by decide +kernel
theorem dX5_takeFire_8 : decode cX5_takeFire 8 = .ok (.iconst 4, 1) := by decide +kernel
theorem dX5_takeFire_9 : decode cX5_takeFire 9 = .ok (.aload_n 0, 1) := by decide +kernel
theorem dX5_takeFire_10 : decode cX5_takeFire 10 = .ok (.getfield 12, 3) := by decide +kernel
theorem dX5_takeFire_13 : decode cX5_takeFire 13 = .ok (.getfield 69, 3) := by decide +kernel
theorem dX5_takeFire_16 : decode cX5_takeFire 16 = .ok (.invokevirtual 72, 3) := by decide +kernel
theorem dX5_takeFire_19 : decode cX5_takeFire 19 = .ok (.return_, 1) := by decide +kernel
theorem dX5_takeFire_20 : decode cX5_takeFire 20 = .ok (.aload_n 0, 1) := by decide +kernel
theorem dX5_takeFire_21 : decode cX5_takeFire 21 = .ok (.iconst 1, 1) := by decide +kernel
theorem dX5_takeFire_22 : decode cX5_takeFire 22 = .ok (.putfield 42, 3) := by decide +kernel
theorem dX5_takeFire_25 : decode cX5_takeFire 25 = .ok (.aload_n 0, 1) := by decide +kernel
theorem dX5_takeFire_26 : decode cX5_takeFire 26 = .ok (.getfield 21, 3) := by decide +kernel
theorem dX5_takeFire_29 : decode cX5_takeFire 29 = .ok (.aload_n 0, 1) := by decide +kernel
theorem dX5_takeFire_30 : decode cX5_takeFire 30 = .ok (.iconst 0, 1) := by decide +kernel
theorem dX5_takeFire_31 : decode cX5_takeFire 31 = .ok (.iconst 4, 1) := by decide +kernel
theorem dX5_takeFire_32 : decode cX5_takeFire 32 = .ok (.invokevirtual 125, 3) := by decide +kernel
theorem dX5_takeFire_35 : decode cX5_takeFire 35 = .ok (.putfield 132, 3) := by decide +kernel
theorem dX5_takeFire_38 : decode cX5_takeFire 38 = .ok (.aload_n 0, 1) := by decide +kernel
theorem dX5_takeFire_39 : decode cX5_takeFire 39 = .ok (.getfield 21, 3) := by decide +kernel
theorem dX5_takeFire_42 : decode cX5_takeFire 42 = .ok (.aload_n 0, 1) := by decide +kernel
theorem dX5_takeFire_43 : decode cX5_takeFire 43 = .ok (.iconst 0, 1) := by decide +kernel
theorem dX5_takeFire_44 : decode cX5_takeFire 44 = .ok (.bipush 20, 2) := by decide +kernel
theorem dX5_takeFire_46 : decode cX5_takeFire 46 = .ok (.invokevirtual 125, 3) := by decide +kernel
theorem dX5_takeFire_49 : decode cX5_takeFire 49 = .ok (.putfield 135, 3) := by decide +kernel
theorem dX5_takeFire_52 : decode cX5_takeFire 52 = .ok (.aload_n 0, 1) := by decide +kernel
theorem dX5_takeFire_53 : decode cX5_takeFire 53 = .ok (.getfield 21, 3) := by decide +kernel
theorem dX5_takeFire_56 : decode cX5_takeFire 56 = .ok (.aload_n 0, 1) := by decide +kernel
theorem dX5_takeFire_57 : decode cX5_takeFire 57 = .ok (.iconst 0, 1) := by decide +kernel
theorem dX5_takeFire_58 : decode cX5_takeFire 58 = .ok (.bipush 9, 2) := by decide +kernel
theorem dX5_takeFire_60 : decode cX5_takeFire 60 = .ok (.invokevirtual 125, 3) := by decide +kernel
theorem dX5_takeFire_63 : decode cX5_takeFire 63 = .ok (.putfield 138, 3) := by decide +kernel
theorem dX5_takeFire_66 : decode cX5_takeFire 66 = .ok (.return_, 1) := by decide +kernel
theorem dX5_takeRain_0 : decode cX5_takeRain 0 = .ok (.iconst 1, 1) := by decide +kernel
theorem dX5_takeRain_1 : decode cX5_takeRain 1 = .ok (.aload_n 0, 1) := by decide +kernel
theorem dX5_takeRain_2 : decode cX5_takeRain 2 = .ok (.iconst 0, 1) := by decide +kernel
theorem dX5_takeRain_3 : decode cX5_takeRain 3 = .ok (.bipush 6, 2) := by decide +kernel
theorem dX5_takeRain_5 : decode cX5_takeRain 5 = .ok (.invokevirtual 125, 3) := by decide +kernel
theorem dX5_takeRain_8 : decode cX5_takeRain 8 = .ok (.ishl, 1) := by decide +kernel
theorem dX5_takeRain_9 : decode cX5_takeRain 9 = .ok (.istore_n 1, 1) := by decide +kernel
theorem dX5_takeRain_10 : decode cX5_takeRain 10 = .ok (.aload_n 0, 1) := by decide +kernel
theorem dX5_takeRain_11 : decode cX5_takeRain 11 = .ok (.getfield 21, 3) := by decide +kernel
theorem dX5_takeRain_14 : decode cX5_takeRain 14 = .ok (.getfield 141, 3) := by decide +kernel
theorem dX5_takeRain_17 : decode cX5_takeRain 17 = .ok (.iload_n 1, 1) := by decide +kernel
theorem dX5_takeRain_18 : decode cX5_takeRain 18 = .ok (.iand, 1) := by decide +kernel
theorem dX5_takeRain_19 : decode cX5_takeRain 19 = .ok (.ifCond .eq 15, 3) := by decide +kernel
theorem dX5_takeRain_22 : decode cX5_takeRain 22 = .ok (.aload_n 0, 1) := by decide +kernel
theorem dX5_takeRain_23 : decode cX5_takeRain 23 = .ok (.iconst 4, 1) := by decide +kernel
theorem dX5_takeRain_24 : decode cX5_takeRain 24 = .ok (.aload_n 0, 1) := by decide +kernel
theorem dX5_takeRain_25 : decode cX5_takeRain 25 = .ok (.getfield 12, 3) := by decide +kernel
theorem dX5_takeRain_28 : decode cX5_takeRain 28 = .ok (.getfield 69, 3) := by decide +kernel
theorem dX5_takeRain_31 : decode cX5_takeRain 31 = .ok (.invokevirtual 72, 3) := by decide +kernel
theorem dX5_takeRain_34 : decode cX5_takeRain 34 = .ok (.aload_n 0, 1) := by decide +kernel
theorem dX5_takeRain_35 : decode cX5_takeRain 35 = .ok (.getfield 21, 3) := by decide +kernel
theorem dX5_takeRain_38 : decode cX5_takeRain 38 = .ok (.dup, 1) := by decide +kernel
theorem dX5_takeRain_39 : decode cX5_takeRain 39 = .ok (.getfield 141, 3) := by decide +kernel
theorem dX5_takeRain_42 : decode cX5_takeRain 42 = .ok (.iload_n 1, 1) := by decide +kernel
theorem dX5_takeRain_43 : decode cX5_takeRain 43 = .ok (.ior, 1) := by decide +kernel
theorem dX5_takeRain_44 : decode cX5_takeRain 44 = .ok (.putfield 141, 3) := by decide +kernel
theorem dX5_takeRain_47 : decode cX5_takeRain 47 = .ok (.return_, 1) := by decide +kernel
theorem dX5_takeOffer_0 : decode cX5_takeOffer 0 = .ok (.aload_n 0, 1) := by decide +kernel
theorem dX5_takeOffer_1 : decode cX5_takeOffer 1 = .ok (.getfield 38, 3) := by decide +kernel
theorem dX5_takeOffer_4 : decode cX5_takeOffer 4 = .ok (.iconst 4, 1) := by decide +kernel
theorem dX5_takeOffer_5 : decode cX5_takeOffer 5 = .ok (.if_icmp .lt 16, 3) := by decide +kernel
theorem dX5_takeOffer_8 : decode cX5_takeOffer 8 = .ok (.aload_n 0, 1) := by decide +kernel
theorem dX5_takeOffer_9 : decode cX5_takeOffer 9 = .ok (.iconst 5, 1) := by decide +kernel
theorem dX5_takeOffer_10 : decode cX5_takeOffer 10 = .ok (.aload_n 0, 1) := by decide +kernel
theorem dX5_takeOffer_11 : decode cX5_takeOffer 11 = .ok (.getfield 12, 3) := by decide +kernel
theorem dX5_takeOffer_14 : decode cX5_takeOffer 14 = .ok (.getfield 69, 3) := by decide +kernel
theorem dX5_takeOffer_17 : decode cX5_takeOffer 17 = .ok (.invokevirtual 72, 3) := by decide +kernel
theorem dX5_takeOffer_20 : decode cX5_takeOffer 20 = .ok (.return_, 1) := by decide +kernel
theorem dX5_takeOffer_21 : decode cX5_takeOffer 21 = .ok (.aload_n 0, 1) := by decide +kernel
theorem dX5_takeOffer_22 : decode cX5_takeOffer 22 = .ok (.getfield 25, 3) := by decide +kernel
theorem dX5_takeOffer_25 : decode cX5_takeOffer 25 = .ok (.aload_n 0, 1) := by decide +kernel
theorem dX5_takeOffer_26 : decode cX5_takeOffer 26 = .ok (.getfield 38, 3) := by decide +kernel
theorem dX5_takeOffer_29 : decode cX5_takeOffer 29 = .ok (.aload_n 0, 1) := by decide +kernel
theorem dX5_takeOffer_30 : decode cX5_takeOffer 30 = .ok (.iconst 0, 1) := by decide +kernel
theorem dX5_takeOffer_31 : decode cX5_takeOffer 31 = .ok (.iconst 4, 1) := by decide +kernel
theorem dX5_takeOffer_32 : decode cX5_takeOffer 32 = .ok (.invokevirtual 125, 3) := by decide +kernel
theorem dX5_takeOffer_35 : decode cX5_takeOffer 35 = .ok (.iastore, 1) := by decide +kernel
theorem dX5_takeOffer_36 : decode cX5_takeOffer 36 = .ok (.aload_n 0, 1) := by decide +kernel
theorem dX5_takeOffer_37 : decode cX5_takeOffer 37 = .ok (.getfield 29, 3) := by decide +kernel
theorem dX5_takeOffer_40 : decode cX5_takeOffer 40 = .ok (.aload_n 0, 1) := by decide +kernel
theorem dX5_takeOffer_41 : decode cX5_takeOffer 41 = .ok (.getfield 38, 3) := by decide +kernel
theorem dX5_takeOffer_44 : decode cX5_takeOffer 44 = .ok (.aload_n 0, 1) := by decide +kernel
theorem dX5_takeOffer_45 : decode cX5_takeOffer 45 = .ok (.iconst 1, 1) := by decide +kernel
theorem dX5_takeOffer_46 : decode cX5_takeOffer 46 = .ok (.bipush 20, 2) := by decide +kernel
theorem dX5_takeOffer_48 : decode cX5_takeOffer 48 = .ok (.invokevirtual 125, 3) := by decide +kernel
theorem dX5_takeOffer_51 : decode cX5_takeOffer 51 = .ok (.iastore, 1) := by decide +kernel
theorem dX5_takeOffer_52 : decode cX5_takeOffer 52 = .ok (.aload_n 0, 1) := by decide +kernel
theorem dX5_takeOffer_53 : decode cX5_takeOffer 53 = .ok (.dup, 1) := by decide +kernel
theorem dX5_takeOffer_54 : decode cX5_takeOffer 54 = .ok (.getfield 38, 3) := by decide +kernel
theorem dX5_takeOffer_57 : decode cX5_takeOffer 57 = .ok (.iconst 1, 1) := by decide +kernel
theorem dX5_takeOffer_58 : decode cX5_takeOffer 58 = .ok (.iadd, 1) := by decide +kernel
theorem dX5_takeOffer_59 : decode cX5_takeOffer 59 = .ok (.putfield 38, 3) := by decide +kernel
theorem dX5_takeOffer_62 : decode cX5_takeOffer 62 = .ok (.return_, 1) := by decide +kernel
theorem dX5_checkHouses_0 : decode cX5_checkHouses 0 = .ok (.aload_n 0, 1) := by decide +kernel
theorem dX5_checkHouses_1 : decode cX5_checkHouses 1 = .ok (.getfield 42, 3) := by decide +kernel
theorem dX5_checkHouses_4 : decode cX5_checkHouses 4 = .ok (.ifCond .eq 33, 3) := by decide +kernel
theorem dX5_checkHouses_7 : decode cX5_checkHouses 7 = .ok (.aload_n 0, 1) := by decide +kernel
theorem dX5_checkHouses_8 : decode cX5_checkHouses 8 = .ok (.getfield 21, 3) := by decide +kernel
theorem dX5_checkHouses_11 : decode cX5_checkHouses 11 = .ok (.aload_n 0, 1) := by decide +kernel
theorem dX5_checkHouses_12 : decode cX5_checkHouses 12 = .ok (.getfield 21, 3) := by decide +kernel
theorem dX5_checkHouses_15 : decode cX5_checkHouses 15 = .ok (.getfield 132, 3) := by decide +kernel
theorem dX5_checkHouses_18 : decode cX5_checkHouses 18 = .ok (.invokevirtual 144, 3) := by decide +kernel
theorem dX5_checkHouses_21 : decode cX5_checkHouses 21 = .ok (.ifCond .ne 16, 3) := by decide +kernel
theorem dX5_checkHouses_24 : decode cX5_checkHouses 24 = .ok (.aload_n 0, 1) := by decide +kernel
theorem dX5_checkHouses_25 : decode cX5_checkHouses 25 = .ok (.bipush 6, 2) := by decide +kernel
theorem dX5_checkHouses_27 : decode cX5_checkHouses 27 = .ok (.aload_n 0, 1) := by decide +kernel
theorem dX5_checkHouses_28 : decode cX5_checkHouses 28 = .ok (.getfield 12, 3) := by decide +kernel
theorem dX5_checkHouses_31 : decode cX5_checkHouses 31 = .ok (.getfield 148, 3) := by decide +kernel
theorem dX5_checkHouses_34 : decode cX5_checkHouses 34 = .ok (.invokevirtual 72, 3) := by decide +kernel
theorem dX5_checkHouses_37 : decode cX5_checkHouses 37 = .ok (.iconst 0, 1) := by decide +kernel
theorem dX5_checkHouses_38 : decode cX5_checkHouses 38 = .ok (.istore_n 1, 1) := by decide +kernel
theorem dX5_checkHouses_39 : decode cX5_checkHouses 39 = .ok (.iload_n 1, 1) := by decide +kernel
theorem dX5_checkHouses_40 : decode cX5_checkHouses 40 = .ok (.aload_n 0, 1) := by decide +kernel
theorem dX5_checkHouses_41 : decode cX5_checkHouses 41 = .ok (.getfield 38, 3) := by decide +kernel
theorem dX5_checkHouses_44 : decode cX5_checkHouses 44 = .ok (.if_icmp .ge 38, 3) := by decide +kernel
theorem dX5_checkHouses_47 : decode cX5_checkHouses 47 = .ok (.aload_n 0, 1) := by decide +kernel
theorem dX5_checkHouses_48 : decode cX5_checkHouses 48 = .ok (.getfield 21, 3) := by decide +kernel
theorem dX5_checkHouses_51 : decode cX5_checkHouses 51 = .ok (.aload_n 0, 1) := by decide +kernel
theorem dX5_checkHouses_52 : decode cX5_checkHouses 52 = .ok (.getfield 25, 3) := by decide +kernel
theorem dX5_checkHouses_55 : decode cX5_checkHouses 55 = .ok (.iload_n 1, 1) := by decide +kernel
theorem dX5_checkHouses_56 : decode cX5_checkHouses 56 = .ok (.iaload, 1) := by decide +kernel
theorem dX5_checkHouses_57 : decode cX5_checkHouses 57 = .ok (.invokevirtual 144, 3) := by decide +kernel
theorem dX5_checkHouses_60 : decode cX5_checkHouses 60 = .ok (.ifCond .ne 16, 3) := by decide +kernel
theorem dX5_checkHouses_63 : decode cX5_checkHouses 63 = .ok (.aload_n 0, 1) := by decide +kernel
theorem dX5_checkHouses_64 : decode cX5_checkHouses 64 = .ok (.bipush 6, 2) := by decide +kernel
theorem dX5_checkHouses_66 : decode cX5_checkHouses 66 = .ok (.aload_n 0, 1) := by decide +kernel
theorem dX5_checkHouses_67 : decode cX5_checkHouses 67 = .ok (.getfield 12, 3) := by decide +kernel
theorem dX5_checkHouses_70 : decode cX5_checkHouses 70 = .ok (.getfield 148, 3) := by decide +kernel
theorem dX5_checkHouses_73 : decode cX5_checkHouses 73 = .ok (.invokevirtual 72, 3) := by decide +kernel
theorem dX5_checkHouses_76 : decode cX5_checkHouses 76 = .ok (.iinc 1 1, 3) := by decide +kernel
theorem dX5_checkHouses_79 : decode cX5_checkHouses 79 = .ok (.goto (-40), 3) := by decide +kernel
theorem dX5_checkHouses_82 : decode cX5_checkHouses 82 = .ok (.return_, 1) := by decide +kernel
theorem dX5_makeOffers_0 : decode cX5_makeOffers 0 = .ok (.iconst 0, 1) := by decide +kernel
theorem dX5_makeOffers_1 : decode cX5_makeOffers 1 = .ok (.istore_n 1, 1) := by decide +kernel
theorem dX5_makeOffers_2 : decode cX5_makeOffers 2 = .ok (.iload_n 1, 1) := by decide +kernel
theorem dX5_makeOffers_3 : decode cX5_makeOffers 3 = .ok (.aload_n 0, 1) := by decide +kernel
theorem dX5_makeOffers_4 : decode cX5_makeOffers 4 = .ok (.getfield 38, 3) := by decide +kernel
theorem dX5_makeOffers_7 : decode cX5_makeOffers 7 = .ok (.if_icmp .ge 51, 3) := by decide +kernel
theorem dX5_makeOffers_10 : decode cX5_makeOffers 10 = .ok (.aload_n 0, 1) := by decide +kernel
theorem dX5_makeOffers_11 : decode cX5_makeOffers 11 = .ok (.getfield 49, 3) := by decide +kernel
theorem dX5_makeOffers_14 : decode cX5_makeOffers 14 = .ok (.ifCond .ne 44, 3) := by decide +kernel
theorem dX5_makeOffers_17 : decode cX5_makeOffers 17 = .ok (.aload_n 0, 1) := by decide +kernel
theorem dX5_makeOffers_18 : decode cX5_makeOffers 18 = .ok (.getfield 21, 3) := by decide +kernel
theorem dX5_makeOffers_21 : decode cX5_makeOffers 21 = .ok (.aload_n 0, 1) := by decide +kernel
theorem dX5_makeOffers_22 : decode cX5_makeOffers 22 = .ok (.getfield 25, 3) := by decide +kernel
theorem dX5_makeOffers_25 : decode cX5_makeOffers 25 = .ok (.iload_n 1, 1) := by decide +kernel
theorem dX5_makeOffers_26 : decode cX5_makeOffers 26 = .ok (.iaload, 1) := by decide +kernel
theorem dX5_makeOffers_27 : decode cX5_makeOffers 27 = .ok (.aload_n 0, 1) := by decide +kernel
theorem dX5_makeOffers_28 : decode cX5_makeOffers 28 = .ok (.getfield 29, 3) := by decide +kernel
theorem dX5_makeOffers_31 : decode cX5_makeOffers 31 = .ok (.iload_n 1, 1) := by decide +kernel
theorem dX5_makeOffers_32 : decode cX5_makeOffers 32 = .ok (.iaload, 1) := by decide +kernel
theorem dX5_makeOffers_33 : decode cX5_makeOffers 33 = .ok (.invokevirtual 151, 3) := by decide +kernel
theorem dX5_makeOffers_36 : decode cX5_makeOffers 36 = .ok (.ifCond .ge 16, 3) := by decide +kernel
theorem dX5_makeOffers_39 : decode cX5_makeOffers 39 = .ok (.aload_n 0, 1) := by decide +kernel
theorem dX5_makeOffers_40 : decode cX5_makeOffers 40 = .ok (.bipush 7, 2) := by decide +kernel
theorem dX5_makeOffers_42 : decode cX5_makeOffers 42 = .ok (.aload_n 0, 1) := by decide +kernel
theorem dX5_makeOffers_43 : decode cX5_makeOffers 43 = .ok (.getfield 12, 3) := by decide +kernel
theorem dX5_makeOffers_46 : decode cX5_makeOffers 46 = .ok (.getfield 148, 3) := by decide +kernel
theorem dX5_makeOffers_49 : decode cX5_makeOffers 49 = .ok (.invokevirtual 72, 3) := by decide +kernel
theorem dX5_makeOffers_52 : decode cX5_makeOffers 52 = .ok (.iinc 1 1, 3) := by decide +kernel
theorem dX5_makeOffers_55 : decode cX5_makeOffers 55 = .ok (.goto (-53), 3) := by decide +kernel
theorem dX5_makeOffers_58 : decode cX5_makeOffers 58 = .ok (.return_, 1) := by decide +kernel
end
section
theorem dX6_init_0 : decode cX6_init 0 = .ok (.aload_n 0, 1) := by decide +kernel
theorem dX6_init_1 : decode cX6_init 1 = .ok (.invokespecial 1, 3) := by decide +kernel
theorem dX6_init_4 : decode cX6_init 4 = .ok (.aload_n 0, 1) := by decide +kernel
theorem dX6_init_5 : decode cX6_init 5 = .ok (.new 7, 3) := by decide +kernel
theorem dX6_init_8 : decode cX6_init 8 = .ok (.dup, 1) := by decide +kernel
theorem dX6_init_9 : decode cX6_init 9 = .ok (.invokespecial 9, 3) := by decide +kernel
theorem dX6_init_12 : decode cX6_init 12 = .ok (.putfield 10, 3) := by decide +kernel
theorem dX6_init_15 : decode cX6_init 15 = .ok (.aload_n 0, 1) := by decide +kernel
theorem dX6_init_16 : decode cX6_init 16 = .ok (.new 16, 3) := by decide +kernel
theorem dX6_init_19 : decode cX6_init 19 = .ok (.dup, 1) := by decide +kernel
theorem dX6_init_20 : decode cX6_init 20 = .ok (.invokespecial 18, 3) := by decide +kernel
theorem dX6_init_23 : decode cX6_init 23 = .ok (.putfield 19, 3) := by decide +kernel
theorem dX6_init_26 : decode cX6_init 26 = .ok (.aload_n 0, 1) := by decide +kernel
theorem dX6_init_27 : decode cX6_init 27 = .ok (.new 16, 3) := by decide +kernel
theorem dX6_init_30 : decode cX6_init 30 = .ok (.dup, 1) := by decide +kernel
theorem dX6_init_31 : decode cX6_init 31 = .ok (.invokespecial 18, 3) := by decide +kernel
theorem dX6_init_34 : decode cX6_init 34 = .ok (.putfield 23, 3) := by decide +kernel
theorem dX6_init_37 : decode cX6_init 37 = .ok (.aload_n 0, 1) := by decide +kernel
theorem dX6_init_38 : decode cX6_init 38 = .ok (.new 26, 3) := by decide +kernel
theorem dX6_init_41 : decode cX6_init 41 = .ok (.dup, 1) := by decide +kernel
theorem dX6_init_42 : decode cX6_init 42 = .ok (.invokespecial 28, 3) := by decide +kernel
theorem dX6_init_45 : decode cX6_init 45 = .ok (.putfield 29, 3) := by decide +kernel
theorem dX6_init_48 : decode cX6_init 48 = .ok (.aload_n 0, 1) := by decide +kernel
theorem dX6_init_49 : decode cX6_init 49 = .ok (.iconst 2, 1) := by decide +kernel
theorem dX6_init_50 : decode cX6_init 50 = .ok (.anewarray 33, 3) := by decide +kernel
theorem dX6_init_53 : decode cX6_init 53 = .ok (.putfield 35, 3) := by decide +kernel
theorem dX6_init_56 : decode cX6_init 56 = .ok (.iconst 0, 1) := by decide +kernel
theorem dX6_init_57 : decode cX6_init 57 = .ok (.istore_n 1, 1) := by decide +kernel
theorem dX6_init_58 : decode cX6_init 58 = .ok (.iload_n 1, 1) := by decide +kernel
theorem dX6_init_59 : decode cX6_init 59 = .ok (.iconst 2, 1) := by decide +kernel
theorem dX6_init_60 : decode cX6_init 60 = .ok (.if_icmp .ge 22, 3) := by decide +kernel
theorem dX6_init_63 : decode cX6_init 63 = .ok (.aload_n 0, 1) := by decide +kernel
theorem dX6_init_64 : decode cX6_init 64 = .ok (.getfield 35, 3) := by decide +kernel
theorem dX6_init_67 : decode cX6_init 67 = .ok (.iload_n 1, 1) := by decide +kernel
theorem dX6_init_68 : decode cX6_init 68 = .ok (.new 33, 3) := by decide +kernel
theorem dX6_init_71 : decode cX6_init 71 = .ok (.dup, 1) := by decide +kernel
theorem dX6_init_72 : decode cX6_init 72 = .ok (.invokespecial 39, 3) := by decide +kernel
theorem dX6_init_75 : decode cX6_init 75 = .ok (.aastore, 1) := by decide +kernel
theorem dX6_init_76 : decode cX6_init 76 = .ok (.iinc 1 1, 3) := by decide +kernel
theorem dX6_init_79 : decode cX6_init 79 = .ok (.goto (-21), 3) := by decide +kernel
theorem dX6_init_82 : decode cX6_init 82 = .ok (.aload_n 0, 1) := by decide +kernel
theorem dX6_init_83 : decode cX6_init 83 = .ok (.iconst 4, 1) := by decide +kernel
theorem dX6_init_84 : decode cX6_init 84 = .ok (.anewarray 40, 3) := by decide +kernel
theorem dX6_init_87 : decode cX6_init 87 = .ok (.putfield 42, 3) := by decide +kernel
theorem dX6_init_90 : decode cX6_init 90 = .ok (.iconst 0, 1) := by decide +kernel
theorem dX6_init_91 : decode cX6_init 91 = .ok (.istore_n 1, 1) := by decide +kernel
theorem dX6_init_92 : decode cX6_init 92 = .ok (.iload_n 1, 1) := by decide +kernel
theorem dX6_init_93 : decode cX6_init 93 = .ok (.iconst 4, 1) := by decide +kernel
theorem dX6_init_94 : decode cX6_init 94 = .ok (.if_icmp .ge 22, 3) := by decide +kernel
theorem dX6_init_97 : decode cX6_init 97 = .ok (.aload_n 0, 1) := by decide +kernel
theorem dX6_init_98 : decode cX6_init 98 = .ok (.getfield 42, 3) := by decide +kernel
theorem dX6_init_101 : decode cX6_init 101 = .ok (.iload_n 1, 1) := by decide +kernel
theorem dX6_init_102 : decode cX6_init 102 = .ok (.new 40, 3) := by decide +kernel
theorem dX6_init_105 : decode cX6_init 105 = .ok (.dup, 1) := by decide +kernel
theorem dX6_init_106 : decode cX6_init 106 = .ok (.invokespecial 46, 3) := by decide +kernel
theorem dX6_init_109 : decode cX6_init 109 = .ok (.aastore, 1) := by decide +kernel
theorem dX6_init_110 : decode cX6_init 110 = .ok (.iinc 1 1, 3) := by decide +kernel
theorem dX6_init_113 : decode cX6_init 113 = .ok (.goto (-21), 3) := by decide +kernel
theorem dX6_init_116 : decode cX6_init 116 = .ok (.aload_n 0, 1) := by decide +kernel
theorem dX6_init_117 : decode cX6_init 117 = .ok (.bipush 45, 2) := by decide +kernel
theorem dX6_init_119 : decode cX6_init 119 = .ok (.newarray .int, 2) := by decide +kernel
theorem dX6_init_121 : decode cX6_init 121 = .ok (.putfield 47, 3) := by decide +kernel
theorem dX6_init_124 : decode cX6_init 124 = .ok (.aload_n 0, 1) := by decide +kernel
theorem dX6_init_125 : decode cX6_init 125 = .ok (.sipush 4500, 3) := by decide +kernel
theorem dX6_init_128 : decode cX6_init 128 = .ok (.newarray .int, 2) := by decide +kernel
theorem dX6_init_130 : decode cX6_init 130 = .ok (.putfield 51, 3) := by decide +kernel
theorem dX6_init_133 : decode cX6_init 133 = .ok (.return_, 1) := by decide +kernel
theorem dX6_feed_0 : decode cX6_feed 0 = .ok (.iload_n 1, 1) := by decide +kernel
theorem dX6_feed_1 : decode cX6_feed 1 = .ok (.iconst 0, 1) := by decide +kernel
theorem dX6_feed_2 : decode cX6_feed 2 = .ok (.bipush 127, 2) := by decide +kernel
theorem dX6_feed_4 : decode cX6_feed 4 = .ok (.invokestatic 54, 3) := by decide +kernel
theorem dX6_feed_7 : decode cX6_feed 7 = .ok (.ifCond .eq 5, 3) := by decide +kernel
theorem dX6_feed_10 : decode cX6_feed 10 = .ok (.iconst (-1), 1) := by decide +kernel
theorem dX6_feed_11 : decode cX6_feed 11 = .ok (.ireturn, 1) := by decide +kernel
theorem dX6_feed_12 : decode cX6_feed 12 = .ok (.aload_n 0, 1) := by decide +kernel
theorem dX6_feed_13 : decode cX6_feed 13 = .ok (.getfield 10, 3) := by decide +kernel
theorem dX6_feed_16 : decode cX6_feed 16 = .ok (.getfield 58, 3) := by decide +kernel
theorem dX6_feed_19 : decode cX6_feed 19 = .ok (.iload_n 1, 1) := by decide +kernel
theorem dX6_feed_20 : decode cX6_feed 20 = .ok (.invokevirtual 62, 3) := by decide +kernel
theorem dX6_feed_23 : decode cX6_feed 23 = .ok (.ifCond .eq 16, 3) := by decide +kernel
theorem dX6_feed_26 : decode cX6_feed 26 = .ok (.aload_n 0, 1) := by decide +kernel
theorem dX6_feed_27 : decode cX6_feed 27 = .ok (.getfield 10, 3) := by decide +kernel
theorem dX6_feed_30 : decode cX6_feed 30 = .ok (.getfield 58, 3) := by decide +kernel
theorem dX6_feed_33 : decode cX6_feed 33 = .ok (.getfield 68, 3) := by decide +kernel
theorem dX6_feed_36 : decode cX6_feed 36 = .ok (.goto 5, 3) := by decide +kernel
theorem dX6_feed_39 : decode cX6_feed 39 = .ok (.bipush (-3), 2) := by decide +kernel
theorem dX6_feed_41 : decode cX6_feed 41 = .ok (.ireturn, 1) := by decide +kernel
theorem dX6_end_0 : decode cX6_end 0 = .ok (.aload_n 0, 1) := by decide +kernel
theorem dX6_end_1 : decode cX6_end 1 = .ok (.getfield 10, 3) := by decide +kernel
theorem dX6_end_4 : decode cX6_end 4 = .ok (.getfield 58, 3) := by decide +kernel
theorem dX6_end_7 : decode cX6_end 7 = .ok (.astore_n 2, 1) := by decide +kernel
theorem dX6_end_8 : decode cX6_end 8 = .ok (.iload_n 1, 1) := by decide +kernel
theorem dX6_end_9 : decode cX6_end 9 = .ok (.iconst 0, 1) := by decide +kernel
theorem dX6_end_10 : decode cX6_end 10 = .ok (.aload_n 2, 1) := by decide +kernel
theorem dX6_end_11 : decode cX6_end 11 = .ok (.getfield 68, 3) := by decide +kernel
theorem dX6_end_14 : decode cX6_end 14 = .ok (.invokestatic 54, 3) := by decide +kernel
theorem dX6_end_17 : decode cX6_end 17 = .ok (.ifCond .eq 5, 3) := by decide +kernel
theorem dX6_end_20 : decode cX6_end 20 = .ok (.iconst (-1), 1) := by decide +kernel
theorem dX6_end_21 : decode cX6_end 21 = .ok (.ireturn, 1) := by decide +kernel
theorem dX6_end_22 : decode cX6_end 22 = .ok (.aload_n 2, 1) := by decide +kernel
theorem dX6_end_23 : decode cX6_end 23 = .ok (.getfield 68, 3) := by decide +kernel
theorem dX6_end_26 : decode cX6_end 26 = .ok (.istore_n 3, 1) := by decide +kernel
theorem dX6_end_27 : decode cX6_end 27 = .ok (.aload_n 2, 1) := by decide +kernel
theorem dX6_end_28 : decode cX6_end 28 = .ok (.iload_n 1, 1) := by decide +kernel
theorem dX6_end_29 : decode cX6_end 29 = .ok (.putfield 68, 3) := by decide +kernel
theorem dX6_end_32 : decode cX6_end 32 = .ok (.iload_n 3, 1) := by decide +kernel
theorem dX6_end_33 : decode cX6_end 33 = .ok (.ireturn, 1) := by decide +kernel
theorem dX6_text_0 : decode cX6_text 0 = .ok (.aload_n 0, 1) := by decide +kernel
theorem dX6_text_1 : decode cX6_text 1 = .ok (.getfield 10, 3) := by decide +kernel
theorem dX6_text_4 : decode cX6_text 4 = .ok (.invokevirtual 72, 3) := by decide +kernel
theorem dX6_text_7 : decode cX6_text 7 = .ok (.aload_n 0, 1) := by decide +kernel
theorem dX6_text_8 : decode cX6_text 8 = .ok (.getfield 10, 3) := by decide +kernel
theorem dX6_text_11 : decode cX6_text 11 = .ok (.getfield 58, 3) := by decide +kernel
theorem dX6_text_14 : decode cX6_text 14 = .ok (.iconst 0, 1) := by decide +kernel
theorem dX6_text_15 : decode cX6_text 15 = .ok (.putfield 68, 3) := by decide +kernel
theorem dX6_text_18 : decode cX6_text 18 = .ok (.aload_n 0, 1) := by decide +kernel
theorem dX6_text_19 : decode cX6_text 19 = .ok (.aload_n 0, 1) := by decide +kernel
theorem dX6_text_20 : decode cX6_text 20 = .ok (.getfield 10, 3) := by decide +kernel
theorem dX6_text_23 : decode cX6_text 23 = .ok (.getfield 75, 3) := by decide +kernel
theorem dX6_text_26 : decode cX6_text 26 = .ok (.putfield 78, 3) := by decide +kernel
theorem dX6_text_29 : decode cX6_text 29 = .ok (.aload_n 0, 1) := by decide +kernel
theorem dX6_text_30 : decode cX6_text 30 = .ok (.getfield 10, 3) := by decide +kernel
theorem dX6_text_33 : decode cX6_text 33 = .ok (.getfield 75, 3) := by decide +kernel
theorem dX6_text_36 : decode cX6_text 36 = .ok (.ifCond .eq 14, 3) := by decide +kernel
theorem dX6_text_39 : decode cX6_text 39 = .ok (.bipush (-10), 2) := by decide +kernel
theorem dX6_text_41 : decode cX6_text 41 = .ok (.aload_n 0, 1) := by decide +kernel
theorem dX6_text_42 : decode cX6_text 42 = .ok (.getfield 10, 3) := by decide +kernel
theorem dX6_text_45 : decode cX6_text 45 = .ok (.getfield 81, 3) := by decide +kernel
theorem dX6_text_48 : decode cX6_text 48 = .ok (.isub, 1) := by decide +kernel
theorem dX6_text_49 : decode cX6_text 49 = .ok (.ireturn, 1) := by decide +kernel
theorem dX6_text_50 : decode cX6_text 50 = .ok (.aload_n 0, 1) := by decide +kernel
theorem dX6_text_51 : decode cX6_text 51 = .ok (.getfield 19, 3) := by decide +kernel
theorem dX6_text_54 : decode cX6_text 54 = .ok (.aload_n 0, 1) := by decide +kernel
theorem dX6_text_55 : decode cX6_text 55 = .ok (.getfield 10, 3) := by decide +kernel
theorem dX6_text_58 : decode cX6_text 58 = .ok (.getfield 84, 3) := by decide +kernel
theorem dX6_text_61 : decode cX6_text 61 = .ok (.invokevirtual 87, 3) := by decide +kernel
theorem dX6_text_64 : decode cX6_text 64 = .ok (.aload_n 0, 1) := by decide +kernel
theorem dX6_text_65 : decode cX6_text 65 = .ok (.getfield 29, 3) := by decide +kernel
theorem dX6_text_68 : decode cX6_text 68 = .ok (.iconst 0, 1) := by decide +kernel
theorem dX6_text_69 : decode cX6_text 69 = .ok (.putfield 91, 3) := by decide +kernel
theorem dX6_text_72 : decode cX6_text 72 = .ok (.iconst 0, 1) := by decide +kernel
theorem dX6_text_73 : decode cX6_text 73 = .ok (.istore_n 1, 1) := by decide +kernel
theorem dX6_text_74 : decode cX6_text 74 = .ok (.iload_n 1, 1) := by decide +kernel
theorem dX6_text_75 : decode cX6_text 75 = .ok (.iconst 2, 1) := by decide +kernel
theorem dX6_text_76 : decode cX6_text 76 = .ok (.if_icmp .ge 19, 3) := by decide +kernel
theorem dX6_text_79 : decode cX6_text 79 = .ok (.aload_n 0, 1) := by decide +kernel
theorem dX6_text_80 : decode cX6_text 80 = .ok (.getfield 35, 3) := by decide +kernel
theorem dX6_text_83 : decode cX6_text 83 = .ok (.iload_n 1, 1) := by decide +kernel
theorem dX6_text_84 : decode cX6_text 84 = .ok (.aaload, 1) := by decide +kernel
theorem dX6_text_85 : decode cX6_text 85 = .ok (.iconst 0, 1) := by decide +kernel
theorem dX6_text_86 : decode cX6_text 86 = .ok (.putfield 94, 3) := by decide +kernel
theorem dX6_text_89 : decode cX6_text 89 = .ok (.iinc 1 1, 3) := by decide +kernel
theorem dX6_text_92 : decode cX6_text 92 = .ok (.goto (-18), 3) := by decide +kernel
theorem dX6_text_95 : decode cX6_text 95 = .ok (.aload_n 0, 1) := by decide +kernel
theorem dX6_text_96 : decode cX6_text 96 = .ok (.getfield 10, 3) := by decide +kernel
theorem dX6_text_99 : decode cX6_text 99 = .ok (.getfield 98, 3) := by decide +kernel
theorem dX6_text_102 : decode cX6_text 102 = .ok (.ireturn, 1) := by decide +kernel
theorem dX6_fault_0 : decode cX6_fault 0 = .ok (.aload_n 0, 1) := by decide +kernel
theorem dX6_fault_1 : decode cX6_fault 1 = .ok (.getfield 78, 3) := by decide +kernel
theorem dX6_fault_4 : decode cX6_fault 4 = .ok (.ireturn, 1) := by decide +kernel
theorem dX6_rule_0 : decode cX6_rule 0 = .ok (.iload_n 1, 1) := by decide +kernel
theorem dX6_rule_1 : decode cX6_rule 1 = .ok (.tableswitch 123 0 8 #[51, 59, 67, 75, 83, 91, 99, 107, 115], 51) := by decide +kernel
theorem dX6_rule_52 : decode cX6_rule 52 = .ok (.aload_n 0, 1) := by decide +kernel
theorem dX6_rule_53 : decode cX6_rule 53 = .ok (.getfield 19, 3) := by decide +kernel
theorem dX6_rule_56 : decode cX6_rule 56 = .ok (.getfield 101, 3) := by decide +kernel
theorem dX6_rule_59 : decode cX6_rule 59 = .ok (.ireturn, 1) := by decide +kernel
theorem dX6_rule_60 : decode cX6_rule 60 = .ok (.aload_n 0, 1) := by decide +kernel
theorem dX6_rule_61 : decode cX6_rule 61 = .ok (.getfield 19, 3) := by decide +kernel
theorem dX6_rule_64 : decode cX6_rule 64 = .ok (.getfield 104, 3) := by decide +kernel
theorem dX6_rule_67 : decode cX6_rule 67 = .ok (.ireturn, 1) := by decide +kernel
theorem dX6_rule_68 : decode cX6_rule 68 = .ok (.aload_n 0, 1) := by decide +kernel
theorem dX6_rule_69 : decode cX6_rule 69 = .ok (.getfield 19, 3) := by decide +kernel
theorem dX6_rule_72 : decode cX6_rule 72 = .ok (.getfield 107, 3) := by decide +kernel
theorem dX6_rule_75 : decode cX6_rule 75 = .ok (.ireturn, 1) := by decide +kernel
theorem dX6_rule_76 : decode cX6_rule 76 = .ok (.aload_n 0, 1) := by decide +kernel
theorem dX6_rule_77 : decode cX6_rule 77 = .ok (.getfield 19, 3) := by decide +kernel
theorem dX6_rule_80 : decode cX6_rule 80 = .ok (.getfield 110, 3) := by decide +kernel
theorem dX6_rule_83 : decode cX6_rule 83 = .ok (.ireturn, 1) := by decide +kernel
theorem dX6_rule_84 : decode cX6_rule 84 = .ok (.aload_n 0, 1) := by decide +kernel
theorem dX6_rule_85 : decode cX6_rule 85 = .ok (.getfield 19, 3) := by decide +kernel
theorem dX6_rule_88 : decode cX6_rule 88 = .ok (.getfield 113, 3) := by decide +kernel
theorem dX6_rule_91 : decode cX6_rule 91 = .ok (.ireturn, 1) := by decide +kernel
theorem dX6_rule_92 : decode cX6_rule 92 = .ok (.aload_n 0, 1) := by decide +kernel
theorem dX6_rule_93 : decode cX6_rule 93 = .ok (.getfield 19, 3) := by decide +kernel
theorem dX6_rule_96 : decode cX6_rule 96 = .ok (.getfield 116, 3) := by decide +kernel
theorem dX6_rule_99 : decode cX6_rule 99 = .ok (.ireturn, 1) := by decide +kernel
theorem dX6_rule_100 : decode cX6_rule 100 = .ok (.aload_n 0, 1) := by decide +kernel
theorem dX6_rule_101 : decode cX6_rule 101 = .ok (.getfield 19, 3) := by decide +kernel
theorem dX6_rule_104 : decode cX6_rule 104 = .ok (.getfield 119, 3) := by decide +kernel
theorem dX6_rule_107 : decode cX6_rule 107 = .ok (.ireturn, 1) := by decide +kernel
theorem dX6_rule_108 : decode cX6_rule 108 = .ok (.aload_n 0, 1) := by decide +kernel
theorem dX6_rule_109 : decode cX6_rule 109 = .ok (.getfield 19, 3) := by decide +kernel
theorem dX6_rule_112 : decode cX6_rule 112 = .ok (.getfield 122, 3) := by decide +kernel
theorem dX6_rule_115 : decode cX6_rule 115 = .ok (.ireturn, 1) := by decide +kernel
theorem dX6_rule_116 : decode cX6_rule 116 = .ok (.aload_n 0, 1) := by decide +kernel
theorem dX6_rule_117 : decode cX6_rule 117 = .ok (.getfield 19, 3) := by decide +kernel
theorem dX6_rule_120 : decode cX6_rule 120 = .ok (.invokevirtual 125, 3) := by decide +kernel
theorem dX6_rule_123 : decode cX6_rule 123 = .ok (.ireturn, 1) := by decide +kernel
theorem dX6_rule_124 : decode cX6_rule 124 = .ok (.iconst (-1), 1) := by decide +kernel
theorem dX6_rule_125 : decode cX6_rule 125 = .ok (.ireturn, 1) := by decide +kernel
theorem dX6_house_0 : decode cX6_house 0 = .ok (.aload_n 0, 1) := by decide +kernel
theorem dX6_house_1 : decode cX6_house 1 = .ok (.getfield 19, 3) := by decide +kernel
theorem dX6_house_4 : decode cX6_house 4 = .ok (.iload_n 1, 1) := by decide +kernel
theorem dX6_house_5 : decode cX6_house 5 = .ok (.invokevirtual 129, 3) := by decide +kernel
theorem dX6_house_8 : decode cX6_house 8 = .ok (.ifCond .ne 5, 3) := by decide +kernel
theorem dX6_house_11 : decode cX6_house 11 = .ok (.iconst (-1), 1) := by decide +kernel
theorem dX6_house_12 : decode cX6_house 12 = .ok (.ireturn, 1) := by decide +kernel
theorem dX6_house_13 : decode cX6_house 13 = .ok (.iload_n 2, 1) := by decide +kernel
theorem dX6_house_14 : decode cX6_house 14 = .ok (.tableswitch 56 0 2 #[26, 36, 46], 26) := by decide +kernel
theorem dX6_house_40 : decode cX6_house 40 = .ok (.aload_n 0, 1) := by decide +kernel
theorem dX6_house_41 : decode cX6_house 41 = .ok (.getfield 19, 3) := by decide +kernel
theorem dX6_house_44 : decode cX6_house 44 = .ok (.getfield 132, 3) := by decide +kernel
theorem dX6_house_47 : decode cX6_house 47 = .ok (.iload_n 1, 1) := by decide +kernel
theorem dX6_house_48 : decode cX6_house 48 = .ok (.iaload, 1) := by decide +kernel
theorem dX6_house_49 : decode cX6_house 49 = .ok (.ireturn, 1) := by decide +kernel
theorem dX6_house_50 : decode cX6_house 50 = .ok (.aload_n 0, 1) := by decide +kernel
theorem dX6_house_51 : decode cX6_house 51 = .ok (.getfield 19, 3) := by decide +kernel
theorem dX6_house_54 : decode cX6_house 54 = .ok (.getfield 135, 3) := by decide +kernel
theorem dX6_house_57 : decode cX6_house 57 = .ok (.iload_n 1, 1) := by decide +kernel
theorem dX6_house_58 : decode cX6_house 58 = .ok (.iaload, 1) := by decide +kernel
theorem dX6_house_59 : decode cX6_house 59 = .ok (.ireturn, 1) := by decide +kernel
theorem dX6_house_60 : decode cX6_house 60 = .ok (.aload_n 0, 1) := by decide +kernel
theorem dX6_house_61 : decode cX6_house 61 = .ok (.getfield 19, 3) := by decide +kernel
theorem dX6_house_64 : decode cX6_house 64 = .ok (.getfield 138, 3) := by decide +kernel
theorem dX6_house_67 : decode cX6_house 67 = .ok (.iload_n 1, 1) := by decide +kernel
theorem dX6_house_68 : decode cX6_house 68 = .ok (.iaload, 1) := by decide +kernel
theorem dX6_house_69 : decode cX6_house 69 = .ok (.ireturn, 1) := by decide +kernel
theorem dX6_house_70 : decode cX6_house 70 = .ok (.iconst (-1), 1) := by decide +kernel
theorem dX6_house_71 : decode cX6_house 71 = .ok (.ireturn, 1) := by decide +kernel
theorem dX6_alter_0 : decode cX6_alter 0 = .ok (.aload_n 0, 1) := by decide +kernel
theorem dX6_alter_1 : decode cX6_alter 1 = .ok (.getfield 19, 3) := by decide +kernel
theorem dX6_alter_4 : decode cX6_alter 4 = .ok (.iload_n 1, 1) := by decide +kernel
theorem dX6_alter_5 : decode cX6_alter 5 = .ok (.invokevirtual 129, 3) := by decide +kernel
theorem dX6_alter_8 : decode cX6_alter 8 = .ok (.ifCond .eq 30, 3) := by decide +kernel
theorem dX6_alter_11 : decode cX6_alter 11 = .ok (.iload_n 2, 1) := by decide +kernel
theorem dX6_alter_12 : decode cX6_alter 12 = .ok (.iconst 0, 1) := by decide +kernel
theorem dX6_alter_13 : decode cX6_alter 13 = .ok (.iconst 1, 1) := by decide +kernel
theorem dX6_alter_14 : decode cX6_alter 14 = .ok (.invokestatic 54, 3) := by decide +kernel
theorem dX6_alter_17 : decode cX6_alter 17 = .ok (.ifCond .ne 21, 3) := by decide +kernel
theorem dX6_alter_20 : decode cX6_alter 20 = .ok (.iload_n 3, 1) := by decide +kernel
theorem dX6_alter_21 : decode cX6_alter 21 = .ok (.iconst 0, 1) := by decide +kernel
theorem dX6_alter_22 : decode cX6_alter 22 = .ok (.iload_n 2, 1) := by decide +kernel
theorem dX6_alter_23 : decode cX6_alter 23 = .ok (.ifCond .ne 7, 3) := by decide +kernel
theorem dX6_alter_26 : decode cX6_alter 26 = .ok (.iconst 3, 1) := by decide +kernel
theorem dX6_alter_27 : decode cX6_alter 27 = .ok (.goto 5, 3) := by decide +kernel
theorem dX6_alter_30 : decode cX6_alter 30 = .ok (.bipush 99, 2) := by decide +kernel
theorem dX6_alter_32 : decode cX6_alter 32 = .ok (.invokestatic 54, 3) := by decide +kernel
theorem dX6_alter_35 : decode cX6_alter 35 = .ok (.ifCond .eq 5, 3) := by decide +kernel
theorem dX6_alter_38 : decode cX6_alter 38 = .ok (.iconst (-1), 1) := by decide +kernel
theorem dX6_alter_39 : decode cX6_alter 39 = .ok (.ireturn, 1) := by decide +kernel
theorem dX6_alter_40 : decode cX6_alter 40 = .ok (.iload_n 2, 1) := by decide +kernel
theorem dX6_alter_41 : decode cX6_alter 41 = .ok (.ifCond .ne 13, 3) := by decide +kernel
theorem dX6_alter_44 : decode cX6_alter 44 = .ok (.aload_n 0, 1) := by decide +kernel
theorem dX6_alter_45 : decode cX6_alter 45 = .ok (.getfield 19, 3) := by decide +kernel
theorem dX6_alter_48 : decode cX6_alter 48 = .ok (.getfield 132, 3) := by decide +kernel
theorem dX6_alter_51 : decode cX6_alter 51 = .ok (.goto 10, 3) := by decide +kernel
theorem dX6_alter_54 : decode cX6_alter 54 = .ok (.aload_n 0, 1) := by decide +kernel
theorem dX6_alter_55 : decode cX6_alter 55 = .ok (.getfield 19, 3) := by decide +kernel
theorem dX6_alter_58 : decode cX6_alter 58 = .ok (.getfield 135, 3) := by decide +kernel
theorem dX6_alter_61 : decode cX6_alter 61 = .ok (.astore 4, 2) := by decide +kernel
theorem dX6_alter_63 : decode cX6_alter 63 = .ok (.aload 4, 2) := by decide +kernel
theorem dX6_alter_65 : decode cX6_alter 65 = .ok (.iload_n 1, 1) := by decide +kernel
theorem dX6_alter_66 : decode cX6_alter 66 = .ok (.iaload, 1) := by decide +kernel
theorem dX6_alter_67 : decode cX6_alter 67 = .ok (.istore 5, 2) := by decide +kernel
theorem dX6_alter_69 : decode cX6_alter 69 = .ok (.aload 4, 2) := by decide +kernel
theorem dX6_alter_71 : decode cX6_alter 71 = .ok (.iload_n 1, 1) := by decide +kernel
theorem dX6_alter_72 : decode cX6_alter 72 = .ok (.iload_n 3, 1) := by decide +kernel
theorem dX6_alter_73 : decode cX6_alter 73 = .ok (.iastore, 1) := by decide +kernel
theorem dX6_alter_74 : decode cX6_alter 74 = .ok (.iload 5, 2) := by decide +kernel
theorem dX6_alter_76 : decode cX6_alter 76 = .ok (.ireturn, 1) := by decide +kernel
theorem dX6_set_0 : decode cX6_set 0 = .ok (.iconst (-1), 1) := by decide +kernel
theorem dX6_set_1 : decode cX6_set 1 = .ok (.istore_n 3, 1) := by decide +kernel
theorem dX6_set_2 : decode cX6_set 2 = .ok (.iload_n 1, 1) := by decide +kernel
theorem dX6_set_3 : decode cX6_set 3 = .ok (.iconst 1, 1) := by decide +kernel
theorem dX6_set_4 : decode cX6_set 4 = .ok (.if_icmp .ne 33, 3) := by decide +kernel
theorem dX6_set_7 : decode cX6_set 7 = .ok (.aload_n 0, 1) := by decide +kernel
theorem dX6_set_8 : decode cX6_set 8 = .ok (.getfield 19, 3) := by decide +kernel
theorem dX6_set_11 : decode cX6_set 11 = .ok (.iload_n 2, 1) := by decide +kernel
theorem dX6_set_12 : decode cX6_set 12 = .ok (.invokevirtual 129, 3) := by decide +kernel
theorem dX6_set_15 : decode cX6_set 15 = .ok (.ifCond .eq 22, 3) := by decide +kernel
theorem dX6_set_18 : decode cX6_set 18 = .ok (.aload_n 0, 1) := by decide +kernel
theorem dX6_set_19 : decode cX6_set 19 = .ok (.getfield 19, 3) := by decide +kernel
theorem dX6_set_22 : decode cX6_set 22 = .ok (.getfield 104, 3) := by decide +kernel
theorem dX6_set_25 : decode cX6_set 25 = .ok (.istore_n 3, 1) := by decide +kernel
theorem dX6_set_26 : decode cX6_set 26 = .ok (.aload_n 0, 1) := by decide +kernel
theorem dX6_set_27 : decode cX6_set 27 = .ok (.getfield 19, 3) := by decide +kernel
theorem dX6_set_30 : decode cX6_set 30 = .ok (.iload_n 2, 1) := by decide +kernel
theorem dX6_set_31 : decode cX6_set 31 = .ok (.putfield 104, 3) := by decide +kernel
theorem dX6_set_34 : decode cX6_set 34 = .ok (.goto 68, 3) := by decide +kernel
theorem dX6_set_37 : decode cX6_set 37 = .ok (.iload_n 1, 1) := by decide +kernel
theorem dX6_set_38 : decode cX6_set 38 = .ok (.iconst 2, 1) := by decide +kernel
theorem dX6_set_39 : decode cX6_set 39 = .ok (.if_icmp .ne 32, 3) := by decide +kernel
theorem dX6_set_42 : decode cX6_set 42 = .ok (.iload_n 2, 1) := by decide +kernel
theorem dX6_set_43 : decode cX6_set 43 = .ok (.iconst 0, 1) := by decide +kernel
theorem dX6_set_44 : decode cX6_set 44 = .ok (.bipush 20, 2) := by decide +kernel
theorem dX6_set_46 : decode cX6_set 46 = .ok (.invokestatic 54, 3) := by decide +kernel
theorem dX6_set_49 : decode cX6_set 49 = .ok (.ifCond .ne 22, 3) := by decide +kernel
theorem dX6_set_52 : decode cX6_set 52 = .ok (.aload_n 0, 1) := by decide +kernel
theorem dX6_set_53 : decode cX6_set 53 = .ok (.getfield 19, 3) := by decide +kernel
theorem dX6_set_56 : decode cX6_set 56 = .ok (.getfield 107, 3) := by decide +kernel
theorem dX6_set_59 : decode cX6_set 59 = .ok (.istore_n 3, 1) := by decide +kernel
theorem dX6_set_60 : decode cX6_set 60 = .ok (.aload_n 0, 1) := by decide +kernel
theorem dX6_set_61 : decode cX6_set 61 = .ok (.getfield 19, 3) := by decide +kernel
theorem dX6_set_64 : decode cX6_set 64 = .ok (.iload_n 2, 1) := by decide +kernel
theorem dX6_set_65 : decode cX6_set 65 = .ok (.putfield 107, 3) := by decide +kernel
theorem dX6_set_68 : decode cX6_set 68 = .ok (.goto 34, 3) := by decide +kernel
theorem dX6_set_71 : decode cX6_set 71 = .ok (.iload_n 1, 1) := by decide +kernel
theorem dX6_set_72 : decode cX6_set 72 = .ok (.iconst 3, 1) := by decide +kernel
theorem dX6_set_73 : decode cX6_set 73 = .ok (.if_icmp .ne 29, 3) := by decide +kernel
theorem dX6_set_76 : decode cX6_set 76 = .ok (.iload_n 2, 1) := by decide +kernel
theorem dX6_set_77 : decode cX6_set 77 = .ok (.iconst 0, 1) := by decide +kernel
theorem dX6_set_78 : decode cX6_set 78 = .ok (.bipush 9, 2) := by decide +kernel
theorem dX6_set_80 : decode cX6_set 80 = .ok (.invokestatic 54, 3) := by decide +kernel
theorem dX6_set_83 : decode cX6_set 83 = .ok (.ifCond .ne 19, 3) := by decide +kernel
theorem dX6_set_86 : decode cX6_set 86 = .ok (.aload_n 0, 1) := by decide +kernel
theorem dX6_set_87 : decode cX6_set 87 = .ok (.getfield 19, 3) := by decide +kernel
theorem dX6_set_90 : decode cX6_set 90 = .ok (.getfield 110, 3) := by decide +kernel
theorem dX6_set_93 : decode cX6_set 93 = .ok (.istore_n 3, 1) := by decide +kernel
theorem dX6_set_94 : decode cX6_set 94 = .ok (.aload_n 0, 1) := by decide +kernel
theorem dX6_set_95 : decode cX6_set 95 = .ok (.getfield 19, 3) := by decide +kernel
theorem dX6_set_98 : decode cX6_set 98 = .ok (.iload_n 2, 1) := by decide +kernel
theorem dX6_set_99 : decode cX6_set 99 = .ok (.putfield 110, 3) := by decide +kernel
theorem dX6_set_102 : decode cX6_set 102 = .ok (.iload_n 3, 1) := by decide +kernel
theorem dX6_set_103 : decode cX6_set 103 = .ok (.ireturn, 1) := by decide +kernel
theorem dX6_rain_0 : decode cX6_rain 0 = .ok (.iload_n 1, 1) := by decide +kernel
theorem dX6_rain_1 : decode cX6_rain 1 = .ok (.iconst 0, 1) := by decide +kernel
theorem dX6_rain_2 : decode cX6_rain 2 = .ok (.bipush 6, 2) := by decide +kernel
theorem dX6_rain_4 : decode cX6_rain 4 = .ok (.invokestatic 54, 3) := by decide +kernel
theorem dX6_rain_7 : decode cX6_rain 7 = .ok (.ifCond .eq 5, 3) := by decide +kernel
theorem dX6_rain_10 : decode cX6_rain 10 = .ok (.iconst (-1), 1) := by decide +kernel
theorem dX6_rain_11 : decode cX6_rain 11 = .ok (.ireturn, 1) := by decide +kernel
theorem dX6_rain_12 : decode cX6_rain 12 = .ok (.aload_n 0, 1) := by decide +kernel
theorem dX6_rain_13 : decode cX6_rain 13 = .ok (.getfield 19, 3) := by decide +kernel
theorem dX6_rain_16 : decode cX6_rain 16 = .ok (.getfield 113, 3) := by decide +kernel
theorem dX6_rain_19 : decode cX6_rain 19 = .ok (.iload_n 1, 1) := by decide +kernel
theorem dX6_rain_20 : decode cX6_rain 20 = .ok (.ishr, 1) := by decide +kernel
theorem dX6_rain_21 : decode cX6_rain 21 = .ok (.iconst 1, 1) := by decide +kernel
theorem dX6_rain_22 : decode cX6_rain 22 = .ok (.iand, 1) := by decide +kernel
theorem dX6_rain_23 : decode cX6_rain 23 = .ok (.istore_n 3, 1) := by decide +kernel
theorem dX6_rain_24 : decode cX6_rain 24 = .ok (.aload_n 0, 1) := by decide +kernel
theorem dX6_rain_25 : decode cX6_rain 25 = .ok (.getfield 19, 3) := by decide +kernel
theorem dX6_rain_28 : decode cX6_rain 28 = .ok (.getfield 113, 3) := by decide +kernel
theorem dX6_rain_31 : decode cX6_rain 31 = .ok (.iconst 1, 1) := by decide +kernel
theorem dX6_rain_32 : decode cX6_rain 32 = .ok (.iload_n 1, 1) := by decide +kernel
theorem dX6_rain_33 : decode cX6_rain 33 = .ok (.ishl, 1) := by decide +kernel
theorem dX6_rain_34 : decode cX6_rain 34 = .ok (.iconst (-1), 1) := by decide +kernel
theorem dX6_rain_35 : decode cX6_rain 35 = .ok (.ixor, 1) := by decide +kernel
theorem dX6_rain_36 : decode cX6_rain 36 = .ok (.iand, 1) := by decide +kernel
theorem dX6_rain_37 : decode cX6_rain 37 = .ok (.istore 4, 2) := by decide +kernel
theorem dX6_rain_39 : decode cX6_rain 39 = .ok (.aload_n 0, 1) := by decide +kernel
theorem dX6_rain_40 : decode cX6_rain 40 = .ok (.getfield 19, 3) := by decide +kernel
theorem dX6_rain_43 : decode cX6_rain 43 = .ok (.iload_n 2, 1) := by decide +kernel
theorem dX6_rain_44 : decode cX6_rain 44 = .ok (.ifCond .eq 12, 3) := by decide +kernel
theorem dX6_rain_47 : decode cX6_rain 47 = .ok (.iload 4, 2) := by decide +kernel
theorem dX6_rain_49 : decode cX6_rain 49 = .ok (.iconst 1, 1) := by decide +kernel
theorem dX6_rain_50 : decode cX6_rain 50 = .ok (.iload_n 1, 1) := by decide +kernel
theorem dX6_rain_51 : decode cX6_rain 51 = .ok (.ishl, 1) := by decide +kernel
theorem dX6_rain_52 : decode cX6_rain 52 = .ok (.ior, 1) := by decide +kernel
theorem dX6_rain_53 : decode cX6_rain 53 = .ok (.goto 5, 3) := by decide +kernel
theorem dX6_rain_56 : decode cX6_rain 56 = .ok (.iload 4, 2) := by decide +kernel
theorem dX6_rain_58 : decode cX6_rain 58 = .ok (.putfield 113, 3) := by decide +kernel
theorem dX6_rain_61 : decode cX6_rain 61 = .ok (.iload_n 3, 1) := by decide +kernel
theorem dX6_rain_62 : decode cX6_rain 62 = .ok (.ireturn, 1) := by decide +kernel
theorem dX6_offer_0 : decode cX6_offer 0 = .ok (.aload_n 0, 1) := by decide +kernel
theorem dX6_offer_1 : decode cX6_offer 1 = .ok (.getfield 19, 3) := by decide +kernel
theorem dX6_offer_4 : decode cX6_offer 4 = .ok (.iload_n 1, 1) := by decide +kernel
theorem dX6_offer_5 : decode cX6_offer 5 = .ok (.iload_n 2, 1) := by decide +kernel
theorem dX6_offer_6 : decode cX6_offer 6 = .ok (.invokevirtual 141, 3) := by decide +kernel
theorem dX6_offer_9 : decode cX6_offer 9 = .ok (.ireturn, 1) := by decide +kernel
theorem dX6_go_0 : decode cX6_go 0 = .ok (.iload_n 1, 1) := by decide +kernel
theorem dX6_go_1 : decode cX6_go 1 = .ok (.iconst 0, 1) := by decide +kernel
theorem dX6_go_2 : decode cX6_go 2 = .ok (.bipush 30, 2) := by decide +kernel
theorem dX6_go_4 : decode cX6_go 4 = .ok (.invokestatic 54, 3) := by decide +kernel
theorem dX6_go_7 : decode cX6_go 7 = .ok (.ifCond .eq 5, 3) := by decide +kernel
theorem dX6_go_10 : decode cX6_go 10 = .ok (.iconst (-1), 1) := by decide +kernel
theorem dX6_go_11 : decode cX6_go 11 = .ok (.ireturn, 1) := by decide +kernel
theorem dX6_go_12 : decode cX6_go 12 = .ok (.aload_n 0, 1) := by decide +kernel
theorem dX6_go_13 : decode cX6_go 13 = .ok (.getfield 19, 3) := by decide +kernel
theorem dX6_go_16 : decode cX6_go 16 = .ok (.getfield 116, 3) := by decide +kernel
theorem dX6_go_19 : decode cX6_go 19 = .ok (.iload_n 1, 1) := by decide +kernel
theorem dX6_go_20 : decode cX6_go 20 = .ok (.iadd, 1) := by decide +kernel
theorem dX6_go_21 : decode cX6_go 21 = .ok (.sipush 999, 3) := by decide +kernel
theorem dX6_go_24 : decode cX6_go 24 = .ok (.if_icmp .le 6, 3) := by decide +kernel
theorem dX6_go_27 : decode cX6_go 27 = .ok (.bipush (-3), 2) := by decide +kernel
theorem dX6_go_29 : decode cX6_go 29 = .ok (.ireturn, 1) := by decide +kernel
theorem dX6_go_30 : decode cX6_go 30 = .ok (.aload_n 0, 1) := by decide +kernel
theorem dX6_go_31 : decode cX6_go 31 = .ok (.getfield 19, 3) := by decide +kernel
theorem dX6_go_34 : decode cX6_go 34 = .ok (.getfield 119, 3) := by decide +kernel
theorem dX6_go_37 : decode cX6_go 37 = .ok (.istore_n 2, 1) := by decide +kernel
theorem dX6_go_38 : decode cX6_go 38 = .ok (.aload_n 0, 1) := by decide +kernel
theorem dX6_go_39 : decode cX6_go 39 = .ok (.getfield 19, 3) := by decide +kernel
theorem dX6_go_42 : decode cX6_go 42 = .ok (.iload_n 1, 1) := by decide +kernel
theorem dX6_go_43 : decode cX6_go 43 = .ok (.invokevirtual 145, 3) := by decide +kernel
theorem dX6_go_46 : decode cX6_go 46 = .ok (.aload_n 0, 1) := by decide +kernel
theorem dX6_go_47 : decode cX6_go 47 = .ok (.getfield 19, 3) := by decide +kernel
theorem dX6_go_50 : decode cX6_go 50 = .ok (.getfield 119, 3) := by decide +kernel
theorem dX6_go_53 : decode cX6_go 53 = .ok (.iload_n 2, 1) := by decide +kernel
theorem dX6_go_54 : decode cX6_go 54 = .ok (.isub, 1) := by decide +kernel
theorem dX6_go_55 : decode cX6_go 55 = .ok (.ireturn, 1) := by decide +kernel
theorem dX6_runs_0 : decode cX6_runs 0 = .ok (.iload_n 1, 1) := by decide +kernel
theorem dX6_runs_1 : decode cX6_runs 1 = .ok (.iconst 0, 1) := by decide +kernel
theorem dX6_runs_2 : decode cX6_runs 2 = .ok (.bipush 30, 2) := by decide +kernel
theorem dX6_runs_4 : decode cX6_runs 4 = .ok (.invokestatic 54, 3) := by decide +kernel
theorem dX6_runs_7 : decode cX6_runs 7 = .ok (.ifCond .ne 12, 3) := by decide +kernel
theorem dX6_runs_10 : decode cX6_runs 10 = .ok (.iload_n 2, 1) := by decide +kernel
theorem dX6_runs_11 : decode cX6_runs 11 = .ok (.iconst 0, 1) := by decide +kernel
theorem dX6_runs_12 : decode cX6_runs 12 = .ok (.iconst 5, 1) := by decide +kernel
theorem dX6_runs_13 : decode cX6_runs 13 = .ok (.invokestatic 54, 3) := by decide +kernel
theorem dX6_runs_16 : decode cX6_runs 16 = .ok (.ifCond .eq 5, 3) := by decide +kernel
theorem dX6_runs_19 : decode cX6_runs 19 = .ok (.iconst (-1), 1) := by decide +kernel
theorem dX6_runs_20 : decode cX6_runs 20 = .ok (.ireturn, 1) := by decide +kernel
theorem dX6_runs_21 : decode cX6_runs 21 = .ok (.aload_n 0, 1) := by decide +kernel
theorem dX6_runs_22 : decode cX6_runs 22 = .ok (.invokevirtual 149, 3) := by decide +kernel
theorem dX6_runs_25 : decode cX6_runs 25 = .ok (.bipush (-4), 2) := by decide +kernel
theorem dX6_runs_27 : decode cX6_runs 27 = .ok (.istore_n 3, 1) := by decide +kernel
theorem dX6_runs_28 : decode cX6_runs 28 = .ok (.iconst 1, 1) := by decide +kernel
theorem dX6_runs_29 : decode cX6_runs 29 = .ok (.istore 4, 2) := by decide +kernel
theorem dX6_runs_31 : decode cX6_runs 31 = .ok (.iload 4, 2) := by decide +kernel
theorem dX6_runs_33 : decode cX6_runs 33 = .ok (.iload_n 1, 1) := by decide +kernel
theorem dX6_runs_34 : decode cX6_runs 34 = .ok (.if_icmp .gt 35, 3) := by decide +kernel
theorem dX6_runs_37 : decode cX6_runs 37 = .ok (.aload_n 0, 1) := by decide +kernel
theorem dX6_runs_38 : decode cX6_runs 38 = .ok (.getfield 23, 3) := by decide +kernel
theorem dX6_runs_41 : decode cX6_runs 41 = .ok (.invokevirtual 152, 3) := by decide +kernel
theorem dX6_runs_44 : decode cX6_runs 44 = .ok (.iload_n 3, 1) := by decide +kernel
theorem dX6_runs_45 : decode cX6_runs 45 = .ok (.bipush (-4), 2) := by decide +kernel
theorem dX6_runs_47 : decode cX6_runs 47 = .ok (.if_icmp .ne 16, 3) := by decide +kernel
theorem dX6_runs_50 : decode cX6_runs 50 = .ok (.aload_n 0, 1) := by decide +kernel
theorem dX6_runs_51 : decode cX6_runs 51 = .ok (.getfield 23, 3) := by decide +kernel
theorem dX6_runs_54 : decode cX6_runs 54 = .ok (.getfield 119, 3) := by decide +kernel
theorem dX6_runs_57 : decode cX6_runs 57 = .ok (.ifCond .le 6, 3) := by decide +kernel
theorem dX6_runs_60 : decode cX6_runs 60 = .ok (.iload 4, 2) := by decide +kernel
theorem dX6_runs_62 : decode cX6_runs 62 = .ok (.istore_n 3, 1) := by decide +kernel
theorem dX6_runs_63 : decode cX6_runs 63 = .ok (.iinc 4 1, 3) := by decide +kernel
theorem dX6_runs_66 : decode cX6_runs 66 = .ok (.goto (-35), 3) := by decide +kernel
theorem dX6_runs_69 : decode cX6_runs 69 = .ok (.iload_n 2, 1) := by decide +kernel
theorem dX6_runs_70 : decode cX6_runs 70 = .ok (.tableswitch 74 0 4 #[34, 42, 50, 58, 66], 34) := by decide +kernel
theorem dX6_runs_104 : decode cX6_runs 104 = .ok (.aload_n 0, 1) := by decide +kernel
theorem dX6_runs_105 : decode cX6_runs 105 = .ok (.getfield 23, 3) := by decide +kernel
theorem dX6_runs_108 : decode cX6_runs 108 = .ok (.getfield 119, 3) := by decide +kernel
theorem dX6_runs_111 : decode cX6_runs 111 = .ok (.ireturn, 1) := by decide +kernel
theorem dX6_runs_112 : decode cX6_runs 112 = .ok (.aload_n 0, 1) := by decide +kernel
theorem dX6_runs_113 : decode cX6_runs 113 = .ok (.getfield 23, 3) := by decide +kernel
theorem dX6_runs_116 : decode cX6_runs 116 = .ok (.getfield 122, 3) := by decide +kernel
theorem dX6_runs_119 : decode cX6_runs 119 = .ok (.ireturn, 1) := by decide +kernel
theorem dX6_runs_120 : decode cX6_runs 120 = .ok (.aload_n 0, 1) := by decide +kernel
theorem dX6_runs_121 : decode cX6_runs 121 = .ok (.getfield 23, 3) := by decide +kernel
theorem dX6_runs_124 : decode cX6_runs 124 = .ok (.getfield 107, 3) := by decide +kernel
theorem dX6_runs_127 : decode cX6_runs 127 = .ok (.ireturn, 1) := by decide +kernel
theorem dX6_runs_128 : decode cX6_runs 128 = .ok (.aload_n 0, 1) := by decide +kernel
theorem dX6_runs_129 : decode cX6_runs 129 = .ok (.getfield 23, 3) := by decide +kernel
theorem dX6_runs_132 : decode cX6_runs 132 = .ok (.getfield 110, 3) := by decide +kernel
theorem dX6_runs_135 : decode cX6_runs 135 = .ok (.ireturn, 1) := by decide +kernel
theorem dX6_runs_136 : decode cX6_runs 136 = .ok (.aload_n 0, 1) := by decide +kernel
theorem dX6_runs_137 : decode cX6_runs 137 = .ok (.getfield 23, 3) := by decide +kernel
theorem dX6_runs_140 : decode cX6_runs 140 = .ok (.getfield 104, 3) := by decide +kernel
theorem dX6_runs_143 : decode cX6_runs 143 = .ok (.ireturn, 1) := by decide +kernel
theorem dX6_runs_144 : decode cX6_runs 144 = .ok (.iload_n 3, 1) := by decide +kernel
theorem dX6_runs_145 : decode cX6_runs 145 = .ok (.ireturn, 1) := by decide +kernel
theorem dX6_ahead_0 : decode cX6_ahead 0 = .ok (.aload_n 0, 1) := by decide +kernel
theorem dX6_ahead_1 : decode cX6_ahead 1 = .ok (.getfield 19, 3) := by decide +kernel
theorem dX6_ahead_4 : decode cX6_ahead 4 = .ok (.iload_n 1, 1) := by decide +kernel
theorem dX6_ahead_5 : decode cX6_ahead 5 = .ok (.invokevirtual 129, 3) := by decide +kernel
theorem dX6_ahead_8 : decode cX6_ahead 8 = .ok (.ifCond .eq 13, 3) := by decide +kernel
theorem dX6_ahead_11 : decode cX6_ahead 11 = .ok (.iload_n 2, 1) := by decide +kernel
theorem dX6_ahead_12 : decode cX6_ahead 12 = .ok (.iconst 0, 1) := by decide +kernel
theorem dX6_ahead_13 : decode cX6_ahead 13 = .ok (.bipush 30, 2) := by decide +kernel
theorem dX6_ahead_15 : decode cX6_ahead 15 = .ok (.invokestatic 54, 3) := by decide +kernel
theorem dX6_ahead_18 : decode cX6_ahead 18 = .ok (.ifCond .eq 5, 3) := by decide +kernel
theorem dX6_ahead_21 : decode cX6_ahead 21 = .ok (.iconst (-1), 1) := by decide +kernel
theorem dX6_ahead_22 : decode cX6_ahead 22 = .ok (.ireturn, 1) := by decide +kernel
theorem dX6_ahead_23 : decode cX6_ahead 23 = .ok (.aload_n 0, 1) := by decide +kernel
theorem dX6_ahead_24 : decode cX6_ahead 24 = .ok (.invokevirtual 149, 3) := by decide +kernel
theorem dX6_ahead_27 : decode cX6_ahead 27 = .ok (.aload_n 0, 1) := by decide +kernel
theorem dX6_ahead_28 : decode cX6_ahead 28 = .ok (.getfield 23, 3) := by decide +kernel
theorem dX6_ahead_31 : decode cX6_ahead 31 = .ok (.iload_n 2, 1) := by decide +kernel
theorem dX6_ahead_32 : decode cX6_ahead 32 = .ok (.invokevirtual 145, 3) := by decide +kernel
theorem dX6_ahead_35 : decode cX6_ahead 35 = .ok (.aload_n 0, 1) := by decide +kernel
theorem dX6_ahead_36 : decode cX6_ahead 36 = .ok (.getfield 23, 3) := by decide +kernel
theorem dX6_ahead_39 : decode cX6_ahead 39 = .ok (.getfield 135, 3) := by decide +kernel
theorem dX6_ahead_42 : decode cX6_ahead 42 = .ok (.iload_n 1, 1) := by decide +kernel
theorem dX6_ahead_43 : decode cX6_ahead 43 = .ok (.iaload, 1) := by decide +kernel
theorem dX6_ahead_44 : decode cX6_ahead 44 = .ok (.ireturn, 1) := by decide +kernel
theorem dX6_bare_0 : decode cX6_bare 0 = .ok (.aload_n 0, 1) := by decide +kernel
theorem dX6_bare_1 : decode cX6_bare 1 = .ok (.getfield 19, 3) := by decide +kernel
theorem dX6_bare_4 : decode cX6_bare 4 = .ok (.iload_n 1, 1) := by decide +kernel
theorem dX6_bare_5 : decode cX6_bare 5 = .ok (.invokevirtual 129, 3) := by decide +kernel
theorem dX6_bare_8 : decode cX6_bare 8 = .ok (.ifCond .ne 5, 3) := by decide +kernel
theorem dX6_bare_11 : decode cX6_bare 11 = .ok (.iconst (-1), 1) := by decide +kernel
theorem dX6_bare_12 : decode cX6_bare 12 = .ok (.ireturn, 1) := by decide +kernel
theorem dX6_bare_13 : decode cX6_bare 13 = .ok (.aload_n 0, 1) := by decide +kernel
theorem dX6_bare_14 : decode cX6_bare 14 = .ok (.invokevirtual 149, 3) := by decide +kernel
theorem dX6_bare_17 : decode cX6_bare 17 = .ok (.iconst 0, 1) := by decide +kernel
theorem dX6_bare_18 : decode cX6_bare 18 = .ok (.istore_n 2, 1) := by decide +kernel
theorem dX6_bare_19 : decode cX6_bare 19 = .ok (.iload_n 2, 1) := by decide +kernel
theorem dX6_bare_20 : decode cX6_bare 20 = .ok (.bipush 60, 2) := by decide +kernel
theorem dX6_bare_22 : decode cX6_bare 22 = .ok (.if_icmp .gt 30, 3) := by decide +kernel
theorem dX6_bare_25 : decode cX6_bare 25 = .ok (.aload_n 0, 1) := by decide +kernel
theorem dX6_bare_26 : decode cX6_bare 26 = .ok (.getfield 23, 3) := by decide +kernel
theorem dX6_bare_29 : decode cX6_bare 29 = .ok (.getfield 135, 3) := by decide +kernel
theorem dX6_bare_32 : decode cX6_bare 32 = .ok (.iload_n 1, 1) := by decide +kernel
theorem dX6_bare_33 : decode cX6_bare 33 = .ok (.iaload, 1) := by decide +kernel
theorem dX6_bare_34 : decode cX6_bare 34 = .ok (.ifCond .ne 5, 3) := by decide +kernel
theorem dX6_bare_37 : decode cX6_bare 37 = .ok (.iload_n 2, 1) := by decide +kernel
theorem dX6_bare_38 : decode cX6_bare 38 = .ok (.ireturn, 1) := by decide +kernel
theorem dX6_bare_39 : decode cX6_bare 39 = .ok (.aload_n 0, 1) := by decide +kernel
theorem dX6_bare_40 : decode cX6_bare 40 = .ok (.getfield 23, 3) := by decide +kernel
theorem dX6_bare_43 : decode cX6_bare 43 = .ok (.invokevirtual 152, 3) := by decide +kernel
theorem dX6_bare_46 : decode cX6_bare 46 = .ok (.iinc 2 1, 3) := by decide +kernel
theorem dX6_bare_49 : decode cX6_bare 49 = .ok (.goto (-30), 3) := by decide +kernel
theorem dX6_bare_52 : decode cX6_bare 52 = .ok (.bipush (-4), 2) := by decide +kernel
theorem dX6_bare_54 : decode cX6_bare 54 = .ok (.ireturn, 1) := by decide +kernel
theorem dX6_best_0 : decode cX6_best 0 = .ok (.iload_n 2, 1) := by decide +kernel
theorem dX6_best_1 : decode cX6_best 1 = .ok (.bipush 10, 2) := by decide +kernel
theorem dX6_best_3 : decode cX6_best 3 = .ok (.isub, 1) := by decide +kernel
theorem dX6_best_4 : decode cX6_best 4 = .ok (.istore_n 3, 1) := by decide +kernel
theorem dX6_best_5 : decode cX6_best 5 = .ok (.iload_n 1, 1) := by decide +kernel
theorem dX6_best_6 : decode cX6_best 6 = .ok (.iconst 0, 1) := by decide +kernel
theorem dX6_best_7 : decode cX6_best 7 = .ok (.bipush 20, 2) := by decide +kernel
theorem dX6_best_9 : decode cX6_best 9 = .ok (.invokestatic 54, 3) := by decide +kernel
theorem dX6_best_12 : decode cX6_best 12 = .ok (.ifCond .ne 18, 3) := by decide +kernel
theorem dX6_best_15 : decode cX6_best 15 = .ok (.iload_n 2, 1) := by decide +kernel
theorem dX6_best_16 : decode cX6_best 16 = .ok (.ifCond .eq 16, 3) := by decide +kernel
theorem dX6_best_19 : decode cX6_best 19 = .ok (.aload_n 0, 1) := by decide +kernel
theorem dX6_best_20 : decode cX6_best 20 = .ok (.getfield 19, 3) := by decide +kernel
theorem dX6_best_23 : decode cX6_best 23 = .ok (.iload_n 3, 1) := by decide +kernel
theorem dX6_best_24 : decode cX6_best 24 = .ok (.invokevirtual 129, 3) := by decide +kernel
theorem dX6_best_27 : decode cX6_best 27 = .ok (.ifCond .ne 5, 3) := by decide +kernel
theorem dX6_best_30 : decode cX6_best 30 = .ok (.iconst (-1), 1) := by decide +kernel
theorem dX6_best_31 : decode cX6_best 31 = .ok (.ireturn, 1) := by decide +kernel
theorem dX6_best_32 : decode cX6_best 32 = .ok (.aload_n 0, 1) := by decide +kernel
theorem dX6_best_33 : decode cX6_best 33 = .ok (.getfield 19, 3) := by decide +kernel
theorem dX6_best_36 : decode cX6_best 36 = .ok (.invokevirtual 155, 3) := by decide +kernel
theorem dX6_best_39 : decode cX6_best 39 = .ok (.istore 4, 2) := by decide +kernel
theorem dX6_best_41 : decode cX6_best 41 = .ok (.iconst 0, 1) := by decide +kernel
theorem dX6_best_42 : decode cX6_best 42 = .ok (.istore 5, 2) := by decide +kernel
theorem dX6_best_44 : decode cX6_best 44 = .ok (.aload_n 0, 1) := by decide +kernel
theorem dX6_best_45 : decode cX6_best 45 = .ok (.iconst 0, 1) := by decide +kernel
theorem dX6_best_46 : decode cX6_best 46 = .ok (.iload_n 1, 1) := by decide +kernel
theorem dX6_best_47 : decode cX6_best 47 = .ok (.invokevirtual 158, 3) := by decide +kernel
theorem dX6_best_50 : decode cX6_best 50 = .ok (.istore 6, 2) := by decide +kernel
theorem dX6_best_52 : decode cX6_best 52 = .ok (.iconst 1, 1) := by decide +kernel
theorem dX6_best_53 : decode cX6_best 53 = .ok (.istore 7, 2) := by decide +kernel
theorem dX6_best_55 : decode cX6_best 55 = .ok (.iload 7, 2) := by decide +kernel
theorem dX6_best_57 : decode cX6_best 57 = .ok (.iload 4, 2) := by decide +kernel
theorem dX6_best_59 : decode cX6_best 59 = .ok (.if_icmp .ge 38, 3) := by decide +kernel
theorem dX6_best_62 : decode cX6_best 62 = .ok (.iload 6, 2) := by decide +kernel
theorem dX6_best_64 : decode cX6_best 64 = .ok (.ifCond .le 33, 3) := by decide +kernel
theorem dX6_best_67 : decode cX6_best 67 = .ok (.aload_n 0, 1) := by decide +kernel
theorem dX6_best_68 : decode cX6_best 68 = .ok (.iload 7, 2) := by decide +kernel
theorem dX6_best_70 : decode cX6_best 70 = .ok (.iload_n 1, 1) := by decide +kernel
theorem dX6_best_71 : decode cX6_best 71 = .ok (.invokevirtual 158, 3) := by decide +kernel
theorem dX6_best_74 : decode cX6_best 74 = .ok (.istore 8, 2) := by decide +kernel
theorem dX6_best_76 : decode cX6_best 76 = .ok (.iload 8, 2) := by decide +kernel
theorem dX6_best_78 : decode cX6_best 78 = .ok (.iload 6, 2) := by decide +kernel
theorem dX6_best_80 : decode cX6_best 80 = .ok (.if_icmp .ge 11, 3) := by decide +kernel
theorem dX6_best_83 : decode cX6_best 83 = .ok (.iload 8, 2) := by decide +kernel
theorem dX6_best_85 : decode cX6_best 85 = .ok (.istore 6, 2) := by decide +kernel
theorem dX6_best_87 : decode cX6_best 87 = .ok (.iload 7, 2) := by decide +kernel
theorem dX6_best_89 : decode cX6_best 89 = .ok (.istore 5, 2) := by decide +kernel
theorem dX6_best_91 : decode cX6_best 91 = .ok (.iinc 7 1, 3) := by decide +kernel
theorem dX6_best_94 : decode cX6_best 94 = .ok (.goto (-39), 3) := by decide +kernel
theorem dX6_best_97 : decode cX6_best 97 = .ok (.iload_n 2, 1) := by decide +kernel
theorem dX6_best_98 : decode cX6_best 98 = .ok (.ifCond .ne 8, 3) := by decide +kernel
theorem dX6_best_101 : decode cX6_best 101 = .ok (.iload 6, 2) := by decide +kernel
theorem dX6_best_103 : decode cX6_best 103 = .ok (.goto 13, 3) := by decide +kernel
theorem dX6_best_106 : decode cX6_best 106 = .ok (.aload_n 0, 1) := by decide +kernel
theorem dX6_best_107 : decode cX6_best 107 = .ok (.getfield 19, 3) := by decide +kernel
theorem dX6_best_110 : decode cX6_best 110 = .ok (.iload 5, 2) := by decide +kernel
theorem dX6_best_112 : decode cX6_best 112 = .ok (.iload_n 3, 1) := by decide +kernel
theorem dX6_best_113 : decode cX6_best 113 = .ok (.invokevirtual 161, 3) := by decide +kernel
theorem dX6_best_116 : decode cX6_best 116 = .ok (.ireturn, 1) := by decide +kernel
theorem dX6_change_0 : decode cX6_change 0 = .ok (.iload_n 1, 1) := by decide +kernel
theorem dX6_change_1 : decode cX6_change 1 = .ok (.iconst 0, 1) := by decide +kernel
theorem dX6_change_2 : decode cX6_change 2 = .ok (.bipush 20, 2) := by decide +kernel
theorem dX6_change_4 : decode cX6_change 4 = .ok (.invokestatic 54, 3) := by decide +kernel
theorem dX6_change_7 : decode cX6_change 7 = .ok (.ifCond .ne 12, 3) := by decide +kernel
theorem dX6_change_10 : decode cX6_change 10 = .ok (.iload_n 2, 1) := by decide +kernel
theorem dX6_change_11 : decode cX6_change 11 = .ok (.iconst 0, 1) := by decide +kernel
theorem dX6_change_12 : decode cX6_change 12 = .ok (.iconst 1, 1) := by decide +kernel
theorem dX6_change_13 : decode cX6_change 13 = .ok (.invokestatic 54, 3) := by decide +kernel
theorem dX6_change_16 : decode cX6_change 16 = .ok (.ifCond .eq 5, 3) := by decide +kernel
theorem dX6_change_19 : decode cX6_change 19 = .ok (.iconst (-1), 1) := by decide +kernel
theorem dX6_change_20 : decode cX6_change 20 = .ok (.ireturn, 1) := by decide +kernel
theorem dX6_change_21 : decode cX6_change 21 = .ok (.aload_n 0, 1) := by decide +kernel
theorem dX6_change_22 : decode cX6_change 22 = .ok (.iload_n 1, 1) := by decide +kernel
theorem dX6_change_23 : decode cX6_change 23 = .ok (.invokevirtual 164, 3) := by decide +kernel
theorem dX6_change_26 : decode cX6_change 26 = .ok (.istore_n 3, 1) := by decide +kernel
theorem dX6_change_27 : decode cX6_change 27 = .ok (.bipush (-4), 2) := by decide +kernel
theorem dX6_change_29 : decode cX6_change 29 = .ok (.istore 4, 2) := by decide +kernel
theorem dX6_change_31 : decode cX6_change 31 = .ok (.iconst 0, 1) := by decide +kernel
theorem dX6_change_32 : decode cX6_change 32 = .ok (.istore 5, 2) := by decide +kernel
theorem dX6_change_34 : decode cX6_change 34 = .ok (.iload 5, 2) := by decide +kernel
theorem dX6_change_36 : decode cX6_change 36 = .ok (.aload_n 0, 1) := by decide +kernel
theorem dX6_change_37 : decode cX6_change 37 = .ok (.getfield 19, 3) := by decide +kernel
theorem dX6_change_40 : decode cX6_change 40 = .ok (.getfield 101, 3) := by decide +kernel
theorem dX6_change_43 : decode cX6_change 43 = .ok (.if_icmp .ge 59, 3) := by decide +kernel
theorem dX6_change_46 : decode cX6_change 46 = .ok (.iconst 0, 1) := by decide +kernel
theorem dX6_change_47 : decode cX6_change 47 = .ok (.istore 6, 2) := by decide +kernel
theorem dX6_change_49 : decode cX6_change 49 = .ok (.iload 6, 2) := by decide +kernel
theorem dX6_change_51 : decode cX6_change 51 = .ok (.iconst 4, 1) := by decide +kernel
theorem dX6_change_52 : decode cX6_change 52 = .ok (.if_icmp .ge 44, 3) := by decide +kernel
theorem dX6_change_55 : decode cX6_change 55 = .ok (.aload_n 0, 1) := by decide +kernel
theorem dX6_change_56 : decode cX6_change 56 = .ok (.iconst 1, 1) := by decide +kernel
theorem dX6_change_57 : decode cX6_change 57 = .ok (.iload 5, 2) := by decide +kernel
theorem dX6_change_59 : decode cX6_change 59 = .ok (.ishl, 1) := by decide +kernel
theorem dX6_change_60 : decode cX6_change 60 = .ok (.iload 6, 2) := by decide +kernel
theorem dX6_change_62 : decode cX6_change 62 = .ok (.iload_n 1, 1) := by decide +kernel
theorem dX6_change_63 : decode cX6_change 63 = .ok (.invokevirtual 168, 3) := by decide +kernel
theorem dX6_change_66 : decode cX6_change 66 = .ok (.invokevirtual 172, 3) := by decide +kernel
theorem dX6_change_69 : decode cX6_change 69 = .ok (.istore 7, 2) := by decide +kernel
theorem dX6_change_71 : decode cX6_change 71 = .ok (.iload 7, 2) := by decide +kernel
theorem dX6_change_73 : decode cX6_change 73 = .ok (.iload_n 3, 1) := by decide +kernel
theorem dX6_change_74 : decode cX6_change 74 = .ok (.if_icmp .ge 16, 3) := by decide +kernel
theorem dX6_change_77 : decode cX6_change 77 = .ok (.iload 7, 2) := by decide +kernel
theorem dX6_change_79 : decode cX6_change 79 = .ok (.istore_n 3, 1) := by decide +kernel
theorem dX6_change_80 : decode cX6_change 80 = .ok (.bipush 10, 2) := by decide +kernel
theorem dX6_change_82 : decode cX6_change 82 = .ok (.iload 5, 2) := by decide +kernel
theorem dX6_change_84 : decode cX6_change 84 = .ok (.imul, 1) := by decide +kernel
theorem dX6_change_85 : decode cX6_change 85 = .ok (.iload 6, 2) := by decide +kernel
theorem dX6_change_87 : decode cX6_change 87 = .ok (.iadd, 1) := by decide +kernel
theorem dX6_change_88 : decode cX6_change 88 = .ok (.istore 4, 2) := by decide +kernel
theorem dX6_change_90 : decode cX6_change 90 = .ok (.iinc 6 1, 3) := by decide +kernel
theorem dX6_change_93 : decode cX6_change 93 = .ok (.goto (-44), 3) := by decide +kernel
theorem dX6_change_96 : decode cX6_change 96 = .ok (.iinc 5 1, 3) := by decide +kernel
theorem dX6_change_99 : decode cX6_change 99 = .ok (.goto (-65), 3) := by decide +kernel
theorem dX6_change_102 : decode cX6_change 102 = .ok (.iload 4, 2) := by decide +kernel
theorem dX6_change_104 : decode cX6_change 104 = .ok (.bipush (-4), 2) := by decide +kernel
theorem dX6_change_106 : decode cX6_change 106 = .ok (.if_icmp .ne 6, 3) := by decide +kernel
theorem dX6_change_109 : decode cX6_change 109 = .ok (.bipush (-4), 2) := by decide +kernel
theorem dX6_change_111 : decode cX6_change 111 = .ok (.ireturn, 1) := by decide +kernel
theorem dX6_change_112 : decode cX6_change 112 = .ok (.iload_n 2, 1) := by decide +kernel
theorem dX6_change_113 : decode cX6_change 113 = .ok (.ifCond .ne 8, 3) := by decide +kernel
theorem dX6_change_116 : decode cX6_change 116 = .ok (.iload 4, 2) := by decide +kernel
theorem dX6_change_118 : decode cX6_change 118 = .ok (.goto 4, 3) := by decide +kernel
theorem dX6_change_121 : decode cX6_change 121 = .ok (.iload_n 3, 1) := by decide +kernel
theorem dX6_change_122 : decode cX6_change 122 = .ok (.ireturn, 1) := by decide +kernel
theorem dX6_cooks_0 : decode cX6_cooks 0 = .ok (.iload_n 1, 1) := by decide +kernel
theorem dX6_cooks_1 : decode cX6_cooks 1 = .ok (.iconst 0, 1) := by decide +kernel
theorem dX6_cooks_2 : decode cX6_cooks 2 = .ok (.bipush 20, 2) := by decide +kernel
theorem dX6_cooks_4 : decode cX6_cooks 4 = .ok (.invokestatic 54, 3) := by decide +kernel
theorem dX6_cooks_7 : decode cX6_cooks 7 = .ok (.ifCond .ne 12, 3) := by decide +kernel
theorem dX6_cooks_10 : decode cX6_cooks 10 = .ok (.iload_n 2, 1) := by decide +kernel
theorem dX6_cooks_11 : decode cX6_cooks 11 = .ok (.iconst 0, 1) := by decide +kernel
theorem dX6_cooks_12 : decode cX6_cooks 12 = .ok (.iconst 1, 1) := by decide +kernel
theorem dX6_cooks_13 : decode cX6_cooks 13 = .ok (.invokestatic 54, 3) := by decide +kernel
theorem dX6_cooks_16 : decode cX6_cooks 16 = .ok (.ifCond .eq 5, 3) := by decide +kernel
theorem dX6_cooks_19 : decode cX6_cooks 19 = .ok (.iconst (-1), 1) := by decide +kernel
theorem dX6_cooks_20 : decode cX6_cooks 20 = .ok (.ireturn, 1) := by decide +kernel
theorem dX6_cooks_21 : decode cX6_cooks 21 = .ok (.bipush 6, 2) := by decide +kernel
theorem dX6_cooks_23 : decode cX6_cooks 23 = .ok (.istore_n 3, 1) := by decide +kernel
theorem dX6_cooks_24 : decode cX6_cooks 24 = .ok (.bipush (-4), 2) := by decide +kernel
theorem dX6_cooks_26 : decode cX6_cooks 26 = .ok (.istore 4, 2) := by decide +kernel
theorem dX6_cooks_28 : decode cX6_cooks 28 = .ok (.iconst 0, 1) := by decide +kernel
theorem dX6_cooks_29 : decode cX6_cooks 29 = .ok (.istore 5, 2) := by decide +kernel
theorem dX6_cooks_31 : decode cX6_cooks 31 = .ok (.iload 5, 2) := by decide +kernel
theorem dX6_cooks_33 : decode cX6_cooks 33 = .ok (.iconst 1, 1) := by decide +kernel
theorem dX6_cooks_34 : decode cX6_cooks 34 = .ok (.aload_n 0, 1) := by decide +kernel
theorem dX6_cooks_35 : decode cX6_cooks 35 = .ok (.getfield 19, 3) := by decide +kernel
theorem dX6_cooks_38 : decode cX6_cooks 38 = .ok (.getfield 101, 3) := by decide +kernel
theorem dX6_cooks_41 : decode cX6_cooks 41 = .ok (.ishl, 1) := by decide +kernel
theorem dX6_cooks_42 : decode cX6_cooks 42 = .ok (.if_icmp .ge 43, 3) := by decide +kernel
theorem dX6_cooks_45 : decode cX6_cooks 45 = .ok (.iload 5, 2) := by decide +kernel
theorem dX6_cooks_47 : decode cX6_cooks 47 = .ok (.invokestatic 175, 3) := by decide +kernel
theorem dX6_cooks_50 : decode cX6_cooks 50 = .ok (.istore 6, 2) := by decide +kernel
theorem dX6_cooks_52 : decode cX6_cooks 52 = .ok (.iload 6, 2) := by decide +kernel
theorem dX6_cooks_54 : decode cX6_cooks 54 = .ok (.iload_n 3, 1) := by decide +kernel
theorem dX6_cooks_55 : decode cX6_cooks 55 = .ok (.if_icmp .ge 24, 3) := by decide +kernel
theorem dX6_cooks_58 : decode cX6_cooks 58 = .ok (.aload_n 0, 1) := by decide +kernel
theorem dX6_cooks_59 : decode cX6_cooks 59 = .ok (.iload 5, 2) := by decide +kernel
theorem dX6_cooks_61 : decode cX6_cooks 61 = .ok (.iconst 3, 1) := by decide +kernel
theorem dX6_cooks_62 : decode cX6_cooks 62 = .ok (.iload_n 1, 1) := by decide +kernel
theorem dX6_cooks_63 : decode cX6_cooks 63 = .ok (.invokevirtual 168, 3) := by decide +kernel
theorem dX6_cooks_66 : decode cX6_cooks 66 = .ok (.getfield 119, 3) := by decide +kernel
theorem dX6_cooks_69 : decode cX6_cooks 69 = .ok (.ifCond .ne 10, 3) := by decide +kernel
theorem dX6_cooks_72 : decode cX6_cooks 72 = .ok (.iload 6, 2) := by decide +kernel
theorem dX6_cooks_74 : decode cX6_cooks 74 = .ok (.istore_n 3, 1) := by decide +kernel
theorem dX6_cooks_75 : decode cX6_cooks 75 = .ok (.iload 5, 2) := by decide +kernel
theorem dX6_cooks_77 : decode cX6_cooks 77 = .ok (.istore 4, 2) := by decide +kernel
theorem dX6_cooks_79 : decode cX6_cooks 79 = .ok (.iinc 5 1, 3) := by decide +kernel
theorem dX6_cooks_82 : decode cX6_cooks 82 = .ok (.goto (-51), 3) := by decide +kernel
theorem dX6_cooks_85 : decode cX6_cooks 85 = .ok (.iload 4, 2) := by decide +kernel
theorem dX6_cooks_87 : decode cX6_cooks 87 = .ok (.bipush (-4), 2) := by decide +kernel
theorem dX6_cooks_89 : decode cX6_cooks 89 = .ok (.if_icmp .ne 6, 3) := by decide +kernel
theorem dX6_cooks_92 : decode cX6_cooks 92 = .ok (.bipush (-4), 2) := by decide +kernel
theorem dX6_cooks_94 : decode cX6_cooks 94 = .ok (.ireturn, 1) := by decide +kernel
theorem dX6_cooks_95 : decode cX6_cooks 95 = .ok (.iload_n 2, 1) := by decide +kernel
theorem dX6_cooks_96 : decode cX6_cooks 96 = .ok (.ifCond .ne 7, 3) := by decide +kernel
theorem dX6_cooks_99 : decode cX6_cooks 99 = .ok (.iload_n 3, 1) := by decide +kernel
theorem dX6_cooks_100 : decode cX6_cooks 100 = .ok (.goto 5, 3) := by decide +kernel
theorem dX6_cooks_103 : decode cX6_cooks 103 = .ok (.iload 4, 2) := by decide +kernel
theorem dX6_cooks_105 : decode cX6_cooks 105 = .ok (.ireturn, 1) := by decide +kernel
theorem dX6_appease_0 : decode cX6_appease 0 = .ok (.aload_n 0, 1) := by decide +kernel
theorem dX6_appease_1 : decode cX6_appease 1 = .ok (.getfield 19, 3) := by decide +kernel
theorem dX6_appease_4 : decode cX6_appease 4 = .ok (.iload_n 1, 1) := by decide +kernel
theorem dX6_appease_5 : decode cX6_appease 5 = .ok (.invokevirtual 129, 3) := by decide +kernel
theorem dX6_appease_8 : decode cX6_appease 8 = .ok (.ifCond .eq 13, 3) := by decide +kernel
theorem dX6_appease_11 : decode cX6_appease 11 = .ok (.iload_n 2, 1) := by decide +kernel
theorem dX6_appease_12 : decode cX6_appease 12 = .ok (.iconst 0, 1) := by decide +kernel
theorem dX6_appease_13 : decode cX6_appease 13 = .ok (.bipush 20, 2) := by decide +kernel
theorem dX6_appease_15 : decode cX6_appease 15 = .ok (.invokestatic 54, 3) := by decide +kernel
theorem dX6_appease_18 : decode cX6_appease 18 = .ok (.ifCond .eq 5, 3) := by decide +kernel
theorem dX6_appease_21 : decode cX6_appease 21 = .ok (.iconst (-1), 1) := by decide +kernel
theorem dX6_appease_22 : decode cX6_appease 22 = .ok (.ireturn, 1) := by decide +kernel
theorem dX6_appease_23 : decode cX6_appease 23 = .ok (.iconst 0, 1) := by decide +kernel
theorem dX6_appease_24 : decode cX6_appease 24 = .ok (.istore_n 3, 1) := by decide +kernel
theorem dX6_appease_25 : decode cX6_appease 25 = .ok (.iload_n 3, 1) := by decide +kernel
theorem dX6_appease_26 : decode cX6_appease 26 = .ok (.bipush 20, 2) := by decide +kernel
theorem dX6_appease_28 : decode cX6_appease 28 = .ok (.if_icmp .gt 62, 3) := by decide +kernel
theorem dX6_appease_31 : decode cX6_appease 31 = .ok (.iload_n 3, 1) := by decide +kernel
theorem dX6_appease_32 : decode cX6_appease 32 = .ok (.aload_n 0, 1) := by decide +kernel
theorem dX6_appease_33 : decode cX6_appease 33 = .ok (.getfield 19, 3) := by decide +kernel
theorem dX6_appease_36 : decode cX6_appease 36 = .ok (.getfield 135, 3) := by decide +kernel
theorem dX6_appease_39 : decode cX6_appease 39 = .ok (.iload_n 1, 1) := by decide +kernel
theorem dX6_appease_40 : decode cX6_appease 40 = .ok (.iaload, 1) := by decide +kernel
theorem dX6_appease_41 : decode cX6_appease 41 = .ok (.if_icmp .gt 49, 3) := by decide +kernel
theorem dX6_appease_44 : decode cX6_appease 44 = .ok (.aload_n 0, 1) := by decide +kernel
theorem dX6_appease_45 : decode cX6_appease 45 = .ok (.invokevirtual 149, 3) := by decide +kernel
theorem dX6_appease_48 : decode cX6_appease 48 = .ok (.iload_n 3, 1) := by decide +kernel
theorem dX6_appease_49 : decode cX6_appease 49 = .ok (.ifCond .le 13, 3) := by decide +kernel
theorem dX6_appease_52 : decode cX6_appease 52 = .ok (.aload_n 0, 1) := by decide +kernel
theorem dX6_appease_53 : decode cX6_appease 53 = .ok (.getfield 23, 3) := by decide +kernel
theorem dX6_appease_56 : decode cX6_appease 56 = .ok (.iload_n 1, 1) := by decide +kernel
theorem dX6_appease_57 : decode cX6_appease 57 = .ok (.iload_n 3, 1) := by decide +kernel
theorem dX6_appease_58 : decode cX6_appease 58 = .ok (.invokevirtual 141, 3) := by decide +kernel
theorem dX6_appease_61 : decode cX6_appease 61 = .ok (.pop, 1) := by decide +kernel
theorem dX6_appease_62 : decode cX6_appease 62 = .ok (.aload_n 0, 1) := by decide +kernel
theorem dX6_appease_63 : decode cX6_appease 63 = .ok (.getfield 23, 3) := by decide +kernel
theorem dX6_appease_66 : decode cX6_appease 66 = .ok (.iload_n 2, 1) := by decide +kernel
theorem dX6_appease_67 : decode cX6_appease 67 = .ok (.invokevirtual 145, 3) := by decide +kernel
theorem dX6_appease_70 : decode cX6_appease 70 = .ok (.aload_n 0, 1) := by decide +kernel
theorem dX6_appease_71 : decode cX6_appease 71 = .ok (.getfield 23, 3) := by decide +kernel
theorem dX6_appease_74 : decode cX6_appease 74 = .ok (.getfield 180, 3) := by decide +kernel
theorem dX6_appease_77 : decode cX6_appease 77 = .ok (.iload_n 1, 1) := by decide +kernel
theorem dX6_appease_78 : decode cX6_appease 78 = .ok (.iaload, 1) := by decide +kernel
theorem dX6_appease_79 : decode cX6_appease 79 = .ok (.ifCond .ne 5, 3) := by decide +kernel
theorem dX6_appease_82 : decode cX6_appease 82 = .ok (.iload_n 3, 1) := by decide +kernel
theorem dX6_appease_83 : decode cX6_appease 83 = .ok (.ireturn, 1) := by decide +kernel
theorem dX6_appease_84 : decode cX6_appease 84 = .ok (.iinc 3 1, 3) := by decide +kernel
theorem dX6_appease_87 : decode cX6_appease 87 = .ok (.goto (-62), 3) := by decide +kernel
theorem dX6_appease_90 : decode cX6_appease 90 = .ok (.bipush (-4), 2) := by decide +kernel
theorem dX6_appease_92 : decode cX6_appease 92 = .ok (.ireturn, 1) := by decide +kernel
theorem dX6_pray_0 : decode cX6_pray 0 = .ok (.iload_n 1, 1) := by decide +kernel
theorem dX6_pray_1 : decode cX6_pray 1 = .ok (.iconst 0, 1) := by decide +kernel
theorem dX6_pray_2 : decode cX6_pray 2 = .ok (.bipush 20, 2) := by decide +kernel
theorem dX6_pray_4 : decode cX6_pray 4 = .ok (.invokestatic 54, 3) := by decide +kernel
theorem dX6_pray_7 : decode cX6_pray 7 = .ok (.ifCond .eq 5, 3) := by decide +kernel
theorem dX6_pray_10 : decode cX6_pray 10 = .ok (.iconst (-1), 1) := by decide +kernel
theorem dX6_pray_11 : decode cX6_pray 11 = .ok (.ireturn, 1) := by decide +kernel
theorem dX6_pray_12 : decode cX6_pray 12 = .ok (.aload_n 0, 1) := by decide +kernel
theorem dX6_pray_13 : decode cX6_pray 13 = .ok (.iload_n 1, 1) := by decide +kernel
theorem dX6_pray_14 : decode cX6_pray 14 = .ok (.invokevirtual 164, 3) := by decide +kernel
theorem dX6_pray_17 : decode cX6_pray 17 = .ok (.istore_n 2, 1) := by decide +kernel
theorem dX6_pray_18 : decode cX6_pray 18 = .ok (.iconst 0, 1) := by decide +kernel
theorem dX6_pray_19 : decode cX6_pray 19 = .ok (.istore_n 3, 1) := by decide +kernel
theorem dX6_pray_20 : decode cX6_pray 20 = .ok (.iconst 0, 1) := by decide +kernel
theorem dX6_pray_21 : decode cX6_pray 21 = .ok (.istore 4, 2) := by decide +kernel
theorem dX6_pray_23 : decode cX6_pray 23 = .ok (.iload 4, 2) := by decide +kernel
theorem dX6_pray_25 : decode cX6_pray 25 = .ok (.bipush 7, 2) := by decide +kernel
theorem dX6_pray_27 : decode cX6_pray 27 = .ok (.if_icmp .ge 55, 3) := by decide +kernel
theorem dX6_pray_30 : decode cX6_pray 30 = .ok (.aload_n 0, 1) := by decide +kernel
theorem dX6_pray_31 : decode cX6_pray 31 = .ok (.invokevirtual 149, 3) := by decide +kernel
theorem dX6_pray_34 : decode cX6_pray 34 = .ok (.aload_n 0, 1) := by decide +kernel
theorem dX6_pray_35 : decode cX6_pray 35 = .ok (.getfield 23, 3) := by decide +kernel
theorem dX6_pray_38 : decode cX6_pray 38 = .ok (.dup, 1) := by decide +kernel
theorem dX6_pray_39 : decode cX6_pray 39 = .ok (.getfield 113, 3) := by decide +kernel
theorem dX6_pray_42 : decode cX6_pray 42 = .ok (.iconst 1, 1) := by decide +kernel
theorem dX6_pray_43 : decode cX6_pray 43 = .ok (.iload 4, 2) := by decide +kernel
theorem dX6_pray_45 : decode cX6_pray 45 = .ok (.ishl, 1) := by decide +kernel
theorem dX6_pray_46 : decode cX6_pray 46 = .ok (.ior, 1) := by decide +kernel
theorem dX6_pray_47 : decode cX6_pray 47 = .ok (.putfield 113, 3) := by decide +kernel
theorem dX6_pray_50 : decode cX6_pray 50 = .ok (.aload_n 0, 1) := by decide +kernel
theorem dX6_pray_51 : decode cX6_pray 51 = .ok (.getfield 23, 3) := by decide +kernel
theorem dX6_pray_54 : decode cX6_pray 54 = .ok (.iload_n 1, 1) := by decide +kernel
theorem dX6_pray_55 : decode cX6_pray 55 = .ok (.invokevirtual 145, 3) := by decide +kernel
theorem dX6_pray_58 : decode cX6_pray 58 = .ok (.aload_n 0, 1) := by decide +kernel
theorem dX6_pray_59 : decode cX6_pray 59 = .ok (.getfield 23, 3) := by decide +kernel
theorem dX6_pray_62 : decode cX6_pray 62 = .ok (.invokevirtual 172, 3) := by decide +kernel
theorem dX6_pray_65 : decode cX6_pray 65 = .ok (.iload_n 2, 1) := by decide +kernel
theorem dX6_pray_66 : decode cX6_pray 66 = .ok (.if_icmp .ge 10, 3) := by decide +kernel
theorem dX6_pray_69 : decode cX6_pray 69 = .ok (.iload_n 3, 1) := by decide +kernel
theorem dX6_pray_70 : decode cX6_pray 70 = .ok (.iconst 1, 1) := by decide +kernel
theorem dX6_pray_71 : decode cX6_pray 71 = .ok (.iload 4, 2) := by decide +kernel
theorem dX6_pray_73 : decode cX6_pray 73 = .ok (.ishl, 1) := by decide +kernel
theorem dX6_pray_74 : decode cX6_pray 74 = .ok (.ior, 1) := by decide +kernel
theorem dX6_pray_75 : decode cX6_pray 75 = .ok (.istore_n 3, 1) := by decide +kernel
theorem dX6_pray_76 : decode cX6_pray 76 = .ok (.iinc 4 1, 3) := by decide +kernel
theorem dX6_pray_79 : decode cX6_pray 79 = .ok (.goto (-56), 3) := by decide +kernel
theorem dX6_pray_82 : decode cX6_pray 82 = .ok (.iload_n 3, 1) := by decide +kernel
theorem dX6_pray_83 : decode cX6_pray 83 = .ok (.ireturn, 1) := by decide +kernel
theorem dX6_value_0 : decode cX6_value 0 = .ok (.iload_n 1, 1) := by decide +kernel
theorem dX6_value_1 : decode cX6_value 1 = .ok (.iconst 0, 1) := by decide +kernel
theorem dX6_value_2 : decode cX6_value 2 = .ok (.iconst 1, 1) := by decide +kernel
theorem dX6_value_3 : decode cX6_value 3 = .ok (.aload_n 0, 1) := by decide +kernel
theorem dX6_value_4 : decode cX6_value 4 = .ok (.getfield 19, 3) := by decide +kernel
theorem dX6_value_7 : decode cX6_value 7 = .ok (.getfield 101, 3) := by decide +kernel
theorem dX6_value_10 : decode cX6_value 10 = .ok (.ishl, 1) := by decide +kernel
theorem dX6_value_11 : decode cX6_value 11 = .ok (.iconst 1, 1) := by decide +kernel
theorem dX6_value_12 : decode cX6_value 12 = .ok (.isub, 1) := by decide +kernel
theorem dX6_value_13 : decode cX6_value 13 = .ok (.invokestatic 54, 3) := by decide +kernel
theorem dX6_value_16 : decode cX6_value 16 = .ok (.ifCond .ne 13, 3) := by decide +kernel
theorem dX6_value_19 : decode cX6_value 19 = .ok (.iload_n 2, 1) := by decide +kernel
theorem dX6_value_20 : decode cX6_value 20 = .ok (.iconst 0, 1) := by decide +kernel
theorem dX6_value_21 : decode cX6_value 21 = .ok (.bipush 20, 2) := by decide +kernel
theorem dX6_value_23 : decode cX6_value 23 = .ok (.invokestatic 54, 3) := by decide +kernel
theorem dX6_value_26 : decode cX6_value 26 = .ok (.ifCond .eq 5, 3) := by decide +kernel
theorem dX6_value_29 : decode cX6_value 29 = .ok (.iconst (-1), 1) := by decide +kernel
theorem dX6_value_30 : decode cX6_value 30 = .ok (.ireturn, 1) := by decide +kernel
theorem dX6_value_31 : decode cX6_value 31 = .ok (.sipush 1000, 3) := by decide +kernel
theorem dX6_value_34 : decode cX6_value 34 = .ok (.aload_n 0, 1) := by decide +kernel
theorem dX6_value_35 : decode cX6_value 35 = .ok (.iload_n 2, 1) := by decide +kernel
theorem dX6_value_36 : decode cX6_value 36 = .ok (.invokevirtual 164, 3) := by decide +kernel
theorem dX6_value_39 : decode cX6_value 39 = .ok (.iadd, 1) := by decide +kernel
theorem dX6_value_40 : decode cX6_value 40 = .ok (.aload_n 0, 1) := by decide +kernel
theorem dX6_value_41 : decode cX6_value 41 = .ok (.iload_n 1, 1) := by decide +kernel
theorem dX6_value_42 : decode cX6_value 42 = .ok (.iconst 3, 1) := by decide +kernel
theorem dX6_value_43 : decode cX6_value 43 = .ok (.iload_n 2, 1) := by decide +kernel
theorem dX6_value_44 : decode cX6_value 44 = .ok (.invokevirtual 168, 3) := by decide +kernel
theorem dX6_value_47 : decode cX6_value 47 = .ok (.invokevirtual 172, 3) := by decide +kernel
theorem dX6_value_50 : decode cX6_value 50 = .ok (.isub, 1) := by decide +kernel
theorem dX6_value_51 : decode cX6_value 51 = .ok (.ireturn, 1) := by decide +kernel
theorem dX6_share_0 : decode cX6_share 0 = .ok (.aload_n 0, 1) := by decide +kernel
theorem dX6_share_1 : decode cX6_share 1 = .ok (.getfield 19, 3) := by decide +kernel
theorem dX6_share_4 : decode cX6_share 4 = .ok (.iload_n 1, 1) := by decide +kernel
theorem dX6_share_5 : decode cX6_share 5 = .ok (.invokevirtual 129, 3) := by decide +kernel
theorem dX6_share_8 : decode cX6_share 8 = .ok (.ifCond .eq 22, 3) := by decide +kernel
theorem dX6_share_11 : decode cX6_share 11 = .ok (.iload_n 2, 1) := by decide +kernel
theorem dX6_share_12 : decode cX6_share 12 = .ok (.iconst 0, 1) := by decide +kernel
theorem dX6_share_13 : decode cX6_share 13 = .ok (.bipush 20, 2) := by decide +kernel
theorem dX6_share_15 : decode cX6_share 15 = .ok (.invokestatic 54, 3) := by decide +kernel
theorem dX6_share_18 : decode cX6_share 18 = .ok (.ifCond .ne 12, 3) := by decide +kernel
theorem dX6_share_21 : decode cX6_share 21 = .ok (.iload_n 3, 1) := by decide +kernel
theorem dX6_share_22 : decode cX6_share 22 = .ok (.iconst 0, 1) := by decide +kernel
theorem dX6_share_23 : decode cX6_share 23 = .ok (.iconst 1, 1) := by decide +kernel
theorem dX6_share_24 : decode cX6_share 24 = .ok (.invokestatic 54, 3) := by decide +kernel
theorem dX6_share_27 : decode cX6_share 27 = .ok (.ifCond .eq 7, 3) := by decide +kernel
theorem dX6_share_30 : decode cX6_share 30 = .ok (.ldc2_w 183, 3) := by decide +kernel
theorem dX6_share_33 : decode cX6_share 33 = .ok (.lreturn, 1) := by decide +kernel
theorem dX6_share_34 : decode cX6_share 34 = .ok (.lconst 0, 1) := by decide +kernel
theorem dX6_share_35 : decode cX6_share 35 = .ok (.lstore 4, 2) := by decide +kernel
theorem dX6_share_37 : decode cX6_share 37 = .ok (.iconst 0, 1) := by decide +kernel
theorem dX6_share_38 : decode cX6_share 38 = .ok (.istore 6, 2) := by decide +kernel
theorem dX6_share_40 : decode cX6_share 40 = .ok (.iload 6, 2) := by decide +kernel
theorem dX6_share_42 : decode cX6_share 42 = .ok (.iconst 1, 1) := by decide +kernel
theorem dX6_share_43 : decode cX6_share 43 = .ok (.aload_n 0, 1) := by decide +kernel
theorem dX6_share_44 : decode cX6_share 44 = .ok (.getfield 19, 3) := by decide +kernel
theorem dX6_share_47 : decode cX6_share 47 = .ok (.getfield 101, 3) := by decide +kernel
theorem dX6_share_50 : decode cX6_share 50 = .ok (.ishl, 1) := by decide +kernel
theorem dX6_share_51 : decode cX6_share 51 = .ok (.if_icmp .ge 88, 3) := by decide +kernel
theorem dX6_share_54 : decode cX6_share 54 = .ok (.iload 6, 2) := by decide +kernel
theorem dX6_share_56 : decode cX6_share 56 = .ok (.iload_n 1, 1) := by decide +kernel
theorem dX6_share_57 : decode cX6_share 57 = .ok (.ishr, 1) := by decide +kernel
theorem dX6_share_58 : decode cX6_share 58 = .ok (.iconst 1, 1) := by decide +kernel
theorem dX6_share_59 : decode cX6_share 59 = .ok (.iand, 1) := by decide +kernel
theorem dX6_share_60 : decode cX6_share 60 = .ok (.ifCond .ne 73, 3) := by decide +kernel
theorem dX6_share_63 : decode cX6_share 63 = .ok (.iload 6, 2) := by decide +kernel
theorem dX6_share_65 : decode cX6_share 65 = .ok (.invokestatic 175, 3) := by decide +kernel
theorem dX6_share_68 : decode cX6_share 68 = .ok (.istore 7, 2) := by decide +kernel
theorem dX6_share_70 : decode cX6_share 70 = .ok (.aload_n 0, 1) := by decide +kernel
theorem dX6_share_71 : decode cX6_share 71 = .ok (.getfield 19, 3) := by decide +kernel
theorem dX6_share_74 : decode cX6_share 74 = .ok (.getfield 101, 3) := by decide +kernel
theorem dX6_share_77 : decode cX6_share 77 = .ok (.iconst 1, 1) := by decide +kernel
theorem dX6_share_78 : decode cX6_share 78 = .ok (.isub, 1) := by decide +kernel
theorem dX6_share_79 : decode cX6_share 79 = .ok (.iload 7, 2) := by decide +kernel
theorem dX6_share_81 : decode cX6_share 81 = .ok (.isub, 1) := by decide +kernel
theorem dX6_share_82 : decode cX6_share 82 = .ok (.istore 8, 2) := by decide +kernel
theorem dX6_share_84 : decode cX6_share 84 = .ok (.aload_n 0, 1) := by decide +kernel
theorem dX6_share_85 : decode cX6_share 85 = .ok (.iload 6, 2) := by decide +kernel
theorem dX6_share_87 : decode cX6_share 87 = .ok (.iconst 3, 1) := by decide +kernel
theorem dX6_share_88 : decode cX6_share 88 = .ok (.iload_n 2, 1) := by decide +kernel
theorem dX6_share_89 : decode cX6_share 89 = .ok (.invokevirtual 168, 3) := by decide +kernel
theorem dX6_share_92 : decode cX6_share 92 = .ok (.invokevirtual 172, 3) := by decide +kernel
theorem dX6_share_95 : decode cX6_share 95 = .ok (.aload_n 0, 1) := by decide +kernel
theorem dX6_share_96 : decode cX6_share 96 = .ok (.iload 6, 2) := by decide +kernel
theorem dX6_share_98 : decode cX6_share 98 = .ok (.iconst 1, 1) := by decide +kernel
theorem dX6_share_99 : decode cX6_share 99 = .ok (.iload_n 1, 1) := by decide +kernel
theorem dX6_share_100 : decode cX6_share 100 = .ok (.ishl, 1) := by decide +kernel
theorem dX6_share_101 : decode cX6_share 101 = .ok (.ior, 1) := by decide +kernel
theorem dX6_share_102 : decode cX6_share 102 = .ok (.iconst 3, 1) := by decide +kernel
theorem dX6_share_103 : decode cX6_share 103 = .ok (.iload_n 2, 1) := by decide +kernel
theorem dX6_share_104 : decode cX6_share 104 = .ok (.invokevirtual 168, 3) := by decide +kernel
theorem dX6_share_107 : decode cX6_share 107 = .ok (.invokevirtual 172, 3) := by decide +kernel
theorem dX6_share_110 : decode cX6_share 110 = .ok (.isub, 1) := by decide +kernel
theorem dX6_share_111 : decode cX6_share 111 = .ok (.istore 9, 2) := by decide +kernel
theorem dX6_share_113 : decode cX6_share 113 = .ok (.lload 4, 2) := by decide +kernel
theorem dX6_share_115 : decode cX6_share 115 = .ok (.iload 9, 2) := by decide +kernel
theorem dX6_share_117 : decode cX6_share 117 = .ok (.i2l, 1) := by decide +kernel
theorem dX6_share_118 : decode cX6_share 118 = .ok (.iload 7, 2) := by decide +kernel
theorem dX6_share_120 : decode cX6_share 120 = .ok (.invokestatic 185, 3) := by decide +kernel
theorem dX6_share_123 : decode cX6_share 123 = .ok (.lmul, 1) := by decide +kernel
theorem dX6_share_124 : decode cX6_share 124 = .ok (.iload 8, 2) := by decide +kernel
theorem dX6_share_126 : decode cX6_share 126 = .ok (.invokestatic 185, 3) := by decide +kernel
theorem dX6_share_129 : decode cX6_share 129 = .ok (.lmul, 1) := by decide +kernel
theorem dX6_share_130 : decode cX6_share 130 = .ok (.ladd, 1) := by decide +kernel
theorem dX6_share_131 : decode cX6_share 131 = .ok (.lstore 4, 2) := by decide +kernel
theorem dX6_share_133 : decode cX6_share 133 = .ok (.iinc 6 1, 3) := by decide +kernel
theorem dX6_share_136 : decode cX6_share 136 = .ok (.goto (-96), 3) := by decide +kernel
theorem dX6_share_139 : decode cX6_share 139 = .ok (.lload 4, 2) := by decide +kernel
theorem dX6_share_141 : decode cX6_share 141 = .ok (.aload_n 0, 1) := by decide +kernel
theorem dX6_share_142 : decode cX6_share 142 = .ok (.getfield 19, 3) := by decide +kernel
theorem dX6_share_145 : decode cX6_share 145 = .ok (.getfield 101, 3) := by decide +kernel
theorem dX6_share_148 : decode cX6_share 148 = .ok (.invokestatic 185, 3) := by decide +kernel
theorem dX6_share_151 : decode cX6_share 151 = .ok (.iload_n 3, 1) := by decide +kernel
theorem dX6_share_152 : decode cX6_share 152 = .ok (.invokestatic 189, 3) := by decide +kernel
theorem dX6_share_155 : decode cX6_share 155 = .ok (.lreturn, 1) := by decide +kernel
theorem dX6_luck_0 : decode cX6_luck 0 = .ok (.iload_n 1, 1) := by decide +kernel
theorem dX6_luck_1 : decode cX6_luck 1 = .ok (.iconst 0, 1) := by decide +kernel
theorem dX6_luck_2 : decode cX6_luck 2 = .ok (.bipush 10, 2) := by decide +kernel
theorem dX6_luck_4 : decode cX6_luck 4 = .ok (.invokestatic 54, 3) := by decide +kernel
theorem dX6_luck_7 : decode cX6_luck 7 = .ok (.ifCond .ne 22, 3) := by decide +kernel
theorem dX6_luck_10 : decode cX6_luck 10 = .ok (.iload_n 2, 1) := by decide +kernel
theorem dX6_luck_11 : decode cX6_luck 11 = .ok (.iconst 0, 1) := by decide +kernel
theorem dX6_luck_12 : decode cX6_luck 12 = .ok (.bipush 20, 2) := by decide +kernel
theorem dX6_luck_14 : decode cX6_luck 14 = .ok (.invokestatic 54, 3) := by decide +kernel
theorem dX6_luck_17 : decode cX6_luck 17 = .ok (.ifCond .ne 12, 3) := by decide +kernel
theorem dX6_luck_20 : decode cX6_luck 20 = .ok (.iload_n 3, 1) := by decide +kernel
theorem dX6_luck_21 : decode cX6_luck 21 = .ok (.iconst 0, 1) := by decide +kernel
theorem dX6_luck_22 : decode cX6_luck 22 = .ok (.iconst 1, 1) := by decide +kernel
theorem dX6_luck_23 : decode cX6_luck 23 = .ok (.invokestatic 54, 3) := by decide +kernel
theorem dX6_luck_26 : decode cX6_luck 26 = .ok (.ifCond .eq 7, 3) := by decide +kernel
theorem dX6_luck_29 : decode cX6_luck 29 = .ok (.ldc2_w 183, 3) := by decide +kernel
theorem dX6_luck_32 : decode cX6_luck 32 = .ok (.lreturn, 1) := by decide +kernel
theorem dX6_luck_33 : decode cX6_luck 33 = .ok (.lconst 0, 1) := by decide +kernel
theorem dX6_luck_34 : decode cX6_luck 34 = .ok (.lstore 4, 2) := by decide +kernel
theorem dX6_luck_36 : decode cX6_luck 36 = .ok (.iconst 0, 1) := by decide +kernel
theorem dX6_luck_37 : decode cX6_luck 37 = .ok (.istore 6, 2) := by decide +kernel
theorem dX6_luck_39 : decode cX6_luck 39 = .ok (.iload 6, 2) := by decide +kernel
theorem dX6_luck_41 : decode cX6_luck 41 = .ok (.iconst 1, 1) := by decide +kernel
theorem dX6_luck_42 : decode cX6_luck 42 = .ok (.aload_n 0, 1) := by decide +kernel
theorem dX6_luck_43 : decode cX6_luck 43 = .ok (.getfield 19, 3) := by decide +kernel
theorem dX6_luck_46 : decode cX6_luck 46 = .ok (.getfield 101, 3) := by decide +kernel
theorem dX6_luck_49 : decode cX6_luck 49 = .ok (.ishl, 1) := by decide +kernel
theorem dX6_luck_50 : decode cX6_luck 50 = .ok (.if_icmp .ge 35, 3) := by decide +kernel
theorem dX6_luck_53 : decode cX6_luck 53 = .ok (.aload_n 0, 1) := by decide +kernel
theorem dX6_luck_54 : decode cX6_luck 54 = .ok (.iload 6, 2) := by decide +kernel
theorem dX6_luck_56 : decode cX6_luck 56 = .ok (.iconst 2, 1) := by decide +kernel
theorem dX6_luck_57 : decode cX6_luck 57 = .ok (.iload_n 2, 1) := by decide +kernel
theorem dX6_luck_58 : decode cX6_luck 58 = .ok (.invokevirtual 168, 3) := by decide +kernel
theorem dX6_luck_61 : decode cX6_luck 61 = .ok (.getfield 119, 3) := by decide +kernel
theorem dX6_luck_64 : decode cX6_luck 64 = .ok (.ifCond .ne 15, 3) := by decide +kernel
theorem dX6_luck_67 : decode cX6_luck 67 = .ok (.lload 4, 2) := by decide +kernel
theorem dX6_luck_69 : decode cX6_luck 69 = .ok (.aload_n 0, 1) := by decide +kernel
theorem dX6_luck_70 : decode cX6_luck 70 = .ok (.iload 6, 2) := by decide +kernel
theorem dX6_luck_72 : decode cX6_luck 72 = .ok (.iload_n 1, 1) := by decide +kernel
theorem dX6_luck_73 : decode cX6_luck 73 = .ok (.invokevirtual 193, 3) := by decide +kernel
theorem dX6_luck_76 : decode cX6_luck 76 = .ok (.ladd, 1) := by decide +kernel
theorem dX6_luck_77 : decode cX6_luck 77 = .ok (.lstore 4, 2) := by decide +kernel
theorem dX6_luck_79 : decode cX6_luck 79 = .ok (.iinc 6 1, 3) := by decide +kernel
theorem dX6_luck_82 : decode cX6_luck 82 = .ok (.goto (-43), 3) := by decide +kernel
theorem dX6_luck_85 : decode cX6_luck 85 = .ok (.lload 4, 2) := by decide +kernel
theorem dX6_luck_87 : decode cX6_luck 87 = .ok (.bipush 10, 2) := by decide +kernel
theorem dX6_luck_89 : decode cX6_luck 89 = .ok (.aload_n 0, 1) := by decide +kernel
theorem dX6_luck_90 : decode cX6_luck 90 = .ok (.getfield 19, 3) := by decide +kernel
theorem dX6_luck_93 : decode cX6_luck 93 = .ok (.getfield 101, 3) := by decide +kernel
theorem dX6_luck_96 : decode cX6_luck 96 = .ok (.invokestatic 197, 3) := by decide +kernel
theorem dX6_luck_99 : decode cX6_luck 99 = .ok (.iload_n 3, 1) := by decide +kernel
theorem dX6_luck_100 : decode cX6_luck 100 = .ok (.invokestatic 189, 3) := by decide +kernel
theorem dX6_luck_103 : decode cX6_luck 103 = .ok (.lreturn, 1) := by decide +kernel
theorem dX6_mean_0 : decode cX6_mean 0 = .ok (.iload_n 1, 1) := by decide +kernel
theorem dX6_mean_1 : decode cX6_mean 1 = .ok (.iconst 0, 1) := by decide +kernel
theorem dX6_mean_2 : decode cX6_mean 2 = .ok (.bipush 10, 2) := by decide +kernel
theorem dX6_mean_4 : decode cX6_mean 4 = .ok (.invokestatic 54, 3) := by decide +kernel
theorem dX6_mean_7 : decode cX6_mean 7 = .ok (.ifCond .ne 22, 3) := by decide +kernel
theorem dX6_mean_10 : decode cX6_mean 10 = .ok (.iload_n 2, 1) := by decide +kernel
theorem dX6_mean_11 : decode cX6_mean 11 = .ok (.iconst 0, 1) := by decide +kernel
theorem dX6_mean_12 : decode cX6_mean 12 = .ok (.bipush 20, 2) := by decide +kernel
theorem dX6_mean_14 : decode cX6_mean 14 = .ok (.invokestatic 54, 3) := by decide +kernel
theorem dX6_mean_17 : decode cX6_mean 17 = .ok (.ifCond .ne 12, 3) := by decide +kernel
theorem dX6_mean_20 : decode cX6_mean 20 = .ok (.iload_n 3, 1) := by decide +kernel
theorem dX6_mean_21 : decode cX6_mean 21 = .ok (.iconst 0, 1) := by decide +kernel
theorem dX6_mean_22 : decode cX6_mean 22 = .ok (.iconst 1, 1) := by decide +kernel
theorem dX6_mean_23 : decode cX6_mean 23 = .ok (.invokestatic 54, 3) := by decide +kernel
theorem dX6_mean_26 : decode cX6_mean 26 = .ok (.ifCond .eq 7, 3) := by decide +kernel
theorem dX6_mean_29 : decode cX6_mean 29 = .ok (.ldc2_w 183, 3) := by decide +kernel
theorem dX6_mean_32 : decode cX6_mean 32 = .ok (.lreturn, 1) := by decide +kernel
theorem dX6_mean_33 : decode cX6_mean 33 = .ok (.lconst 0, 1) := by decide +kernel
theorem dX6_mean_34 : decode cX6_mean 34 = .ok (.lstore 4, 2) := by decide +kernel
theorem dX6_mean_36 : decode cX6_mean 36 = .ok (.iconst 0, 1) := by decide +kernel
theorem dX6_mean_37 : decode cX6_mean 37 = .ok (.istore 6, 2) := by decide +kernel
theorem dX6_mean_39 : decode cX6_mean 39 = .ok (.iload 6, 2) := by decide +kernel
theorem dX6_mean_41 : decode cX6_mean 41 = .ok (.iconst 1, 1) := by decide +kernel
theorem dX6_mean_42 : decode cX6_mean 42 = .ok (.aload_n 0, 1) := by decide +kernel
theorem dX6_mean_43 : decode cX6_mean 43 = .ok (.getfield 19, 3) := by decide +kernel
theorem dX6_mean_46 : decode cX6_mean 46 = .ok (.getfield 101, 3) := by decide +kernel
theorem dX6_mean_49 : decode cX6_mean 49 = .ok (.ishl, 1) := by decide +kernel
theorem dX6_mean_50 : decode cX6_mean 50 = .ok (.if_icmp .ge 34, 3) := by decide +kernel
theorem dX6_mean_53 : decode cX6_mean 53 = .ok (.lload 4, 2) := by decide +kernel
theorem dX6_mean_55 : decode cX6_mean 55 = .ok (.aload_n 0, 1) := by decide +kernel
theorem dX6_mean_56 : decode cX6_mean 56 = .ok (.iload 6, 2) := by decide +kernel
theorem dX6_mean_58 : decode cX6_mean 58 = .ok (.iload_n 1, 1) := by decide +kernel
theorem dX6_mean_59 : decode cX6_mean 59 = .ok (.invokevirtual 193, 3) := by decide +kernel
theorem dX6_mean_62 : decode cX6_mean 62 = .ok (.aload_n 0, 1) := by decide +kernel
theorem dX6_mean_63 : decode cX6_mean 63 = .ok (.iload 6, 2) := by decide +kernel
theorem dX6_mean_65 : decode cX6_mean 65 = .ok (.iconst 2, 1) := by decide +kernel
theorem dX6_mean_66 : decode cX6_mean 66 = .ok (.iload_n 2, 1) := by decide +kernel
theorem dX6_mean_67 : decode cX6_mean 67 = .ok (.invokevirtual 168, 3) := by decide +kernel
theorem dX6_mean_70 : decode cX6_mean 70 = .ok (.invokevirtual 172, 3) := by decide +kernel
theorem dX6_mean_73 : decode cX6_mean 73 = .ok (.i2l, 1) := by decide +kernel
theorem dX6_mean_74 : decode cX6_mean 74 = .ok (.lmul, 1) := by decide +kernel
theorem dX6_mean_75 : decode cX6_mean 75 = .ok (.ladd, 1) := by decide +kernel
theorem dX6_mean_76 : decode cX6_mean 76 = .ok (.lstore 4, 2) := by decide +kernel
theorem dX6_mean_78 : decode cX6_mean 78 = .ok (.iinc 6 1, 3) := by decide +kernel
theorem dX6_mean_81 : decode cX6_mean 81 = .ok (.goto (-42), 3) := by decide +kernel
theorem dX6_mean_84 : decode cX6_mean 84 = .ok (.lload 4, 2) := by decide +kernel
theorem dX6_mean_86 : decode cX6_mean 86 = .ok (.bipush 10, 2) := by decide +kernel
theorem dX6_mean_88 : decode cX6_mean 88 = .ok (.aload_n 0, 1) := by decide +kernel
theorem dX6_mean_89 : decode cX6_mean 89 = .ok (.getfield 19, 3) := by decide +kernel
theorem dX6_mean_92 : decode cX6_mean 92 = .ok (.getfield 101, 3) := by decide +kernel
theorem dX6_mean_95 : decode cX6_mean 95 = .ok (.invokestatic 197, 3) := by decide +kernel
theorem dX6_mean_98 : decode cX6_mean 98 = .ok (.iload_n 3, 1) := by decide +kernel
theorem dX6_mean_99 : decode cX6_mean 99 = .ok (.invokestatic 189, 3) := by decide +kernel
theorem dX6_mean_102 : decode cX6_mean 102 = .ok (.lreturn, 1) := by decide +kernel
theorem dX6_see_0 : decode cX6_see 0 = .ok (.aload_n 0, 1) := by decide +kernel
theorem dX6_see_1 : decode cX6_see 1 = .ok (.getfield 19, 3) := by decide +kernel
theorem dX6_see_4 : decode cX6_see 4 = .ok (.iload_n 1, 1) := by decide +kernel
theorem dX6_see_5 : decode cX6_see 5 = .ok (.invokevirtual 129, 3) := by decide +kernel
theorem dX6_see_8 : decode cX6_see 8 = .ok (.ifCond .eq 23, 3) := by decide +kernel
theorem dX6_see_11 : decode cX6_see 11 = .ok (.iload_n 2, 1) := by decide +kernel
theorem dX6_see_12 : decode cX6_see 12 = .ok (.iconst 1, 1) := by decide +kernel
theorem dX6_see_13 : decode cX6_see 13 = .ok (.bipush 9, 2) := by decide +kernel
theorem dX6_see_15 : decode cX6_see 15 = .ok (.invokestatic 54, 3) := by decide +kernel
theorem dX6_see_18 : decode cX6_see 18 = .ok (.ifCond .ne 13, 3) := by decide +kernel
theorem dX6_see_21 : decode cX6_see 21 = .ok (.iload_n 3, 1) := by decide +kernel
theorem dX6_see_22 : decode cX6_see 22 = .ok (.iconst 0, 1) := by decide +kernel
theorem dX6_see_23 : decode cX6_see 23 = .ok (.bipush 99, 2) := by decide +kernel
theorem dX6_see_25 : decode cX6_see 25 = .ok (.invokestatic 54, 3) := by decide +kernel
theorem dX6_see_28 : decode cX6_see 28 = .ok (.ifCond .eq 5, 3) := by decide +kernel
theorem dX6_see_31 : decode cX6_see 31 = .ok (.iconst (-1), 1) := by decide +kernel
theorem dX6_see_32 : decode cX6_see 32 = .ok (.ireturn, 1) := by decide +kernel
theorem dX6_see_33 : decode cX6_see 33 = .ok (.aload_n 0, 1) := by decide +kernel
theorem dX6_see_34 : decode cX6_see 34 = .ok (.getfield 29, 3) := by decide +kernel
theorem dX6_see_37 : decode cX6_see 37 = .ok (.iload_n 1, 1) := by decide +kernel
theorem dX6_see_38 : decode cX6_see 38 = .ok (.iload_n 2, 1) := by decide +kernel
theorem dX6_see_39 : decode cX6_see 39 = .ok (.iload_n 3, 1) := by decide +kernel
theorem dX6_see_40 : decode cX6_see 40 = .ok (.invokevirtual 200, 3) := by decide +kernel
theorem dX6_see_43 : decode cX6_see 43 = .ok (.ifCond .eq 13, 3) := by decide +kernel
theorem dX6_see_46 : decode cX6_see 46 = .ok (.aload_n 0, 1) := by decide +kernel
theorem dX6_see_47 : decode cX6_see 47 = .ok (.getfield 29, 3) := by decide +kernel
theorem dX6_see_50 : decode cX6_see 50 = .ok (.getfield 91, 3) := by decide +kernel
theorem dX6_see_53 : decode cX6_see 53 = .ok (.goto 5, 3) := by decide +kernel
theorem dX6_see_56 : decode cX6_see 56 = .ok (.bipush (-3), 2) := by decide +kernel
theorem dX6_see_58 : decode cX6_see 58 = .ok (.ireturn, 1) := by decide +kernel
theorem dX6_forget_0 : decode cX6_forget 0 = .ok (.iload_n 1, 1) := by decide +kernel
theorem dX6_forget_1 : decode cX6_forget 1 = .ok (.iconst 0, 1) := by decide +kernel
theorem dX6_forget_2 : decode cX6_forget 2 = .ok (.aload_n 0, 1) := by decide +kernel
theorem dX6_forget_3 : decode cX6_forget 3 = .ok (.getfield 29, 3) := by decide +kernel
theorem dX6_forget_6 : decode cX6_forget 6 = .ok (.getfield 91, 3) := by decide +kernel
theorem dX6_forget_9 : decode cX6_forget 9 = .ok (.invokestatic 54, 3) := by decide +kernel
theorem dX6_forget_12 : decode cX6_forget 12 = .ok (.ifCond .eq 5, 3) := by decide +kernel
theorem dX6_forget_15 : decode cX6_forget 15 = .ok (.iconst (-1), 1) := by decide +kernel
theorem dX6_forget_16 : decode cX6_forget 16 = .ok (.ireturn, 1) := by decide +kernel
theorem dX6_forget_17 : decode cX6_forget 17 = .ok (.aload_n 0, 1) := by decide +kernel
theorem dX6_forget_18 : decode cX6_forget 18 = .ok (.getfield 29, 3) := by decide +kernel
theorem dX6_forget_21 : decode cX6_forget 21 = .ok (.getfield 91, 3) := by decide +kernel
theorem dX6_forget_24 : decode cX6_forget 24 = .ok (.istore_n 2, 1) := by decide +kernel
theorem dX6_forget_25 : decode cX6_forget 25 = .ok (.aload_n 0, 1) := by decide +kernel
theorem dX6_forget_26 : decode cX6_forget 26 = .ok (.getfield 29, 3) := by decide +kernel
theorem dX6_forget_29 : decode cX6_forget 29 = .ok (.iload_n 1, 1) := by decide +kernel
theorem dX6_forget_30 : decode cX6_forget 30 = .ok (.putfield 91, 3) := by decide +kernel
theorem dX6_forget_33 : decode cX6_forget 33 = .ok (.iload_n 2, 1) := by decide +kernel
theorem dX6_forget_34 : decode cX6_forget 34 = .ok (.ireturn, 1) := by decide +kernel
theorem dX6_fits_0 : decode cX6_fits 0 = .ok (.iload_n 1, 1) := by decide +kernel
theorem dX6_fits_1 : decode cX6_fits 1 = .ok (.bipush 10, 2) := by decide +kernel
theorem dX6_fits_3 : decode cX6_fits 3 = .ok (.isub, 1) := by decide +kernel
theorem dX6_fits_4 : decode cX6_fits 4 = .ok (.istore_n 2, 1) := by decide +kernel
theorem dX6_fits_5 : decode cX6_fits 5 = .ok (.iload_n 1, 1) := by decide +kernel
theorem dX6_fits_6 : decode cX6_fits 6 = .ok (.iconst 0, 1) := by decide +kernel
theorem dX6_fits_7 : decode cX6_fits 7 = .ok (.iconst 1, 1) := by decide +kernel
theorem dX6_fits_8 : decode cX6_fits 8 = .ok (.invokestatic 54, 3) := by decide +kernel
theorem dX6_fits_11 : decode cX6_fits 11 = .ok (.ifCond .eq 16, 3) := by decide +kernel
theorem dX6_fits_14 : decode cX6_fits 14 = .ok (.aload_n 0, 1) := by decide +kernel
theorem dX6_fits_15 : decode cX6_fits 15 = .ok (.getfield 19, 3) := by decide +kernel
theorem dX6_fits_18 : decode cX6_fits 18 = .ok (.iload_n 2, 1) := by decide +kernel
theorem dX6_fits_19 : decode cX6_fits 19 = .ok (.invokevirtual 129, 3) := by decide +kernel
theorem dX6_fits_22 : decode cX6_fits 22 = .ok (.ifCond .ne 5, 3) := by decide +kernel
theorem dX6_fits_25 : decode cX6_fits 25 = .ok (.iconst (-1), 1) := by decide +kernel
theorem dX6_fits_26 : decode cX6_fits 26 = .ok (.ireturn, 1) := by decide +kernel
theorem dX6_fits_27 : decode cX6_fits 27 = .ok (.aload_n 0, 1) := by decide +kernel
theorem dX6_fits_28 : decode cX6_fits 28 = .ok (.getfield 19, 3) := by decide +kernel
theorem dX6_fits_31 : decode cX6_fits 31 = .ok (.invokevirtual 155, 3) := by decide +kernel
theorem dX6_fits_34 : decode cX6_fits 34 = .ok (.istore_n 3, 1) := by decide +kernel
theorem dX6_fits_35 : decode cX6_fits 35 = .ok (.iconst 0, 1) := by decide +kernel
theorem dX6_fits_36 : decode cX6_fits 36 = .ok (.istore 4, 2) := by decide +kernel
theorem dX6_fits_38 : decode cX6_fits 38 = .ok (.bipush (-4), 2) := by decide +kernel
theorem dX6_fits_40 : decode cX6_fits 40 = .ok (.istore 5, 2) := by decide +kernel
theorem dX6_fits_42 : decode cX6_fits 42 = .ok (.iconst 0, 1) := by decide +kernel
theorem dX6_fits_43 : decode cX6_fits 43 = .ok (.istore 6, 2) := by decide +kernel
theorem dX6_fits_45 : decode cX6_fits 45 = .ok (.aload_n 0, 1) := by decide +kernel
theorem dX6_fits_46 : decode cX6_fits 46 = .ok (.getfield 29, 3) := by decide +kernel
theorem dX6_fits_49 : decode cX6_fits 49 = .ok (.invokevirtual 202, 3) := by decide +kernel
theorem dX6_fits_52 : decode cX6_fits 52 = .ok (.istore 7, 2) := by decide +kernel
theorem dX6_fits_54 : decode cX6_fits 54 = .ok (.iconst 0, 1) := by decide +kernel
theorem dX6_fits_55 : decode cX6_fits 55 = .ok (.istore 8, 2) := by decide +kernel
theorem dX6_fits_57 : decode cX6_fits 57 = .ok (.iload 8, 2) := by decide +kernel
theorem dX6_fits_59 : decode cX6_fits 59 = .ok (.iload_n 3, 1) := by decide +kernel
theorem dX6_fits_60 : decode cX6_fits 60 = .ok (.if_icmp .ge 67, 3) := by decide +kernel
theorem dX6_fits_63 : decode cX6_fits 63 = .ok (.aload_n 0, 1) := by decide +kernel
theorem dX6_fits_64 : decode cX6_fits 64 = .ok (.iload 8, 2) := by decide +kernel
theorem dX6_fits_66 : decode cX6_fits 66 = .ok (.iload 7, 2) := by decide +kernel
theorem dX6_fits_68 : decode cX6_fits 68 = .ok (.invokevirtual 205, 3) := by decide +kernel
theorem dX6_fits_71 : decode cX6_fits 71 = .ok (.aload_n 0, 1) := by decide +kernel
theorem dX6_fits_72 : decode cX6_fits 72 = .ok (.getfield 29, 3) := by decide +kernel
theorem dX6_fits_75 : decode cX6_fits 75 = .ok (.aload_n 0, 1) := by decide +kernel
theorem dX6_fits_76 : decode cX6_fits 76 = .ok (.getfield 47, 3) := by decide +kernel
theorem dX6_fits_79 : decode cX6_fits 79 = .ok (.invokevirtual 209, 3) := by decide +kernel
theorem dX6_fits_82 : decode cX6_fits 82 = .ok (.ifCond .eq 39, 3) := by decide +kernel
theorem dX6_fits_85 : decode cX6_fits 85 = .ok (.iinc 4 1, 3) := by decide +kernel
theorem dX6_fits_88 : decode cX6_fits 88 = .ok (.iload 5, 2) := by decide +kernel
theorem dX6_fits_90 : decode cX6_fits 90 = .ok (.bipush (-4), 2) := by decide +kernel
theorem dX6_fits_92 : decode cX6_fits 92 = .ok (.if_icmp .ne 8, 3) := by decide +kernel
theorem dX6_fits_95 : decode cX6_fits 95 = .ok (.iload 8, 2) := by decide +kernel
theorem dX6_fits_97 : decode cX6_fits 97 = .ok (.goto 5, 3) := by decide +kernel
theorem dX6_fits_100 : decode cX6_fits 100 = .ok (.iload 5, 2) := by decide +kernel
theorem dX6_fits_102 : decode cX6_fits 102 = .ok (.istore 5, 2) := by decide +kernel
theorem dX6_fits_104 : decode cX6_fits 104 = .ok (.iload 6, 2) := by decide +kernel
theorem dX6_fits_106 : decode cX6_fits 106 = .ok (.iconst 1, 1) := by decide +kernel
theorem dX6_fits_107 : decode cX6_fits 107 = .ok (.aload_n 0, 1) := by decide +kernel
theorem dX6_fits_108 : decode cX6_fits 108 = .ok (.getfield 19, 3) := by decide +kernel
theorem dX6_fits_111 : decode cX6_fits 111 = .ok (.iload 8, 2) := by decide +kernel
theorem dX6_fits_113 : decode cX6_fits 113 = .ok (.iload_n 2, 1) := by decide +kernel
theorem dX6_fits_114 : decode cX6_fits 114 = .ok (.invokevirtual 161, 3) := by decide +kernel
theorem dX6_fits_117 : decode cX6_fits 117 = .ok (.ishl, 1) := by decide +kernel
theorem dX6_fits_118 : decode cX6_fits 118 = .ok (.ior, 1) := by decide +kernel
theorem dX6_fits_119 : decode cX6_fits 119 = .ok (.istore 6, 2) := by decide +kernel
theorem dX6_fits_121 : decode cX6_fits 121 = .ok (.iinc 8 1, 3) := by decide +kernel
theorem dX6_fits_124 : decode cX6_fits 124 = .ok (.goto (-67), 3) := by decide +kernel
theorem dX6_fits_127 : decode cX6_fits 127 = .ok (.iload_n 1, 1) := by decide +kernel
theorem dX6_fits_128 : decode cX6_fits 128 = .ok (.ifCond .ne 6, 3) := by decide +kernel
theorem dX6_fits_131 : decode cX6_fits 131 = .ok (.iload 4, 2) := by decide +kernel
theorem dX6_fits_133 : decode cX6_fits 133 = .ok (.ireturn, 1) := by decide +kernel
theorem dX6_fits_134 : decode cX6_fits 134 = .ok (.iload_n 1, 1) := by decide +kernel
theorem dX6_fits_135 : decode cX6_fits 135 = .ok (.iconst 1, 1) := by decide +kernel
theorem dX6_fits_136 : decode cX6_fits 136 = .ok (.if_icmp .ne 8, 3) := by decide +kernel
theorem dX6_fits_139 : decode cX6_fits 139 = .ok (.iload 5, 2) := by decide +kernel
theorem dX6_fits_141 : decode cX6_fits 141 = .ok (.goto 5, 3) := by decide +kernel
theorem dX6_fits_144 : decode cX6_fits 144 = .ok (.iload 6, 2) := by decide +kernel
theorem dX6_fits_146 : decode cX6_fits 146 = .ok (.ireturn, 1) := by decide +kernel
theorem dX6_look_0 : decode cX6_look 0 = .ok (.iload_n 1, 1) := by decide +kernel
theorem dX6_look_1 : decode cX6_look 1 = .ok (.iconst 0, 1) := by decide +kernel
theorem dX6_look_2 : decode cX6_look 2 = .ok (.iconst 1, 1) := by decide +kernel
theorem dX6_look_3 : decode cX6_look 3 = .ok (.invokestatic 54, 3) := by decide +kernel
theorem dX6_look_6 : decode cX6_look 6 = .ok (.ifCond .eq 5, 3) := by decide +kernel
theorem dX6_look_9 : decode cX6_look 9 = .ok (.iconst (-1), 1) := by decide +kernel
theorem dX6_look_10 : decode cX6_look 10 = .ok (.ireturn, 1) := by decide +kernel
theorem dX6_look_11 : decode cX6_look 11 = .ok (.aload_n 0, 1) := by decide +kernel
theorem dX6_look_12 : decode cX6_look 12 = .ok (.invokevirtual 213, 3) := by decide +kernel
theorem dX6_look_15 : decode cX6_look 15 = .ok (.istore_n 2, 1) := by decide +kernel
theorem dX6_look_16 : decode cX6_look 16 = .ok (.bipush (-4), 2) := by decide +kernel
theorem dX6_look_18 : decode cX6_look 18 = .ok (.istore_n 3, 1) := by decide +kernel
theorem dX6_look_19 : decode cX6_look 19 = .ok (.iconst 0, 1) := by decide +kernel
theorem dX6_look_20 : decode cX6_look 20 = .ok (.istore 4, 2) := by decide +kernel
theorem dX6_look_22 : decode cX6_look 22 = .ok (.iload 4, 2) := by decide +kernel
theorem dX6_look_24 : decode cX6_look 24 = .ok (.aload_n 0, 1) := by decide +kernel
theorem dX6_look_25 : decode cX6_look 25 = .ok (.getfield 19, 3) := by decide +kernel
theorem dX6_look_28 : decode cX6_look 28 = .ok (.getfield 101, 3) := by decide +kernel
theorem dX6_look_31 : decode cX6_look 31 = .ok (.if_icmp .ge 56, 3) := by decide +kernel
theorem dX6_look_34 : decode cX6_look 34 = .ok (.iconst 1, 1) := by decide +kernel
theorem dX6_look_35 : decode cX6_look 35 = .ok (.istore 5, 2) := by decide +kernel
theorem dX6_look_37 : decode cX6_look 37 = .ok (.iload 5, 2) := by decide +kernel
theorem dX6_look_39 : decode cX6_look 39 = .ok (.bipush 9, 2) := by decide +kernel
theorem dX6_look_41 : decode cX6_look 41 = .ok (.if_icmp .gt 40, 3) := by decide +kernel
theorem dX6_look_44 : decode cX6_look 44 = .ok (.aload_n 0, 1) := by decide +kernel
theorem dX6_look_45 : decode cX6_look 45 = .ok (.iload 4, 2) := by decide +kernel
theorem dX6_look_47 : decode cX6_look 47 = .ok (.iload 5, 2) := by decide +kernel
theorem dX6_look_49 : decode cX6_look 49 = .ok (.invokestatic 216, 3) := by decide +kernel
theorem dX6_look_52 : decode cX6_look 52 = .ok (.invokevirtual 219, 3) := by decide +kernel
theorem dX6_look_55 : decode cX6_look 55 = .ok (.istore 6, 2) := by decide +kernel
theorem dX6_look_57 : decode cX6_look 57 = .ok (.iload 6, 2) := by decide +kernel
theorem dX6_look_59 : decode cX6_look 59 = .ok (.iload_n 2, 1) := by decide +kernel
theorem dX6_look_60 : decode cX6_look 60 = .ok (.if_icmp .ge 15, 3) := by decide +kernel
theorem dX6_look_63 : decode cX6_look 63 = .ok (.iload 6, 2) := by decide +kernel
theorem dX6_look_65 : decode cX6_look 65 = .ok (.istore_n 2, 1) := by decide +kernel
theorem dX6_look_66 : decode cX6_look 66 = .ok (.bipush 10, 2) := by decide +kernel
theorem dX6_look_68 : decode cX6_look 68 = .ok (.iload 4, 2) := by decide +kernel
theorem dX6_look_70 : decode cX6_look 70 = .ok (.imul, 1) := by decide +kernel
theorem dX6_look_71 : decode cX6_look 71 = .ok (.iload 5, 2) := by decide +kernel
theorem dX6_look_73 : decode cX6_look 73 = .ok (.iadd, 1) := by decide +kernel
theorem dX6_look_74 : decode cX6_look 74 = .ok (.istore_n 3, 1) := by decide +kernel
theorem dX6_look_75 : decode cX6_look 75 = .ok (.iinc 5 1, 3) := by decide +kernel
theorem dX6_look_78 : decode cX6_look 78 = .ok (.goto (-41), 3) := by decide +kernel
theorem dX6_look_81 : decode cX6_look 81 = .ok (.iinc 4 1, 3) := by decide +kernel
theorem dX6_look_84 : decode cX6_look 84 = .ok (.goto (-62), 3) := by decide +kernel
theorem dX6_look_87 : decode cX6_look 87 = .ok (.iload_n 3, 1) := by decide +kernel
theorem dX6_look_88 : decode cX6_look 88 = .ok (.bipush (-4), 2) := by decide +kernel
theorem dX6_look_90 : decode cX6_look 90 = .ok (.if_icmp .ne 6, 3) := by decide +kernel
theorem dX6_look_93 : decode cX6_look 93 = .ok (.bipush (-4), 2) := by decide +kernel
theorem dX6_look_95 : decode cX6_look 95 = .ok (.ireturn, 1) := by decide +kernel
theorem dX6_look_96 : decode cX6_look 96 = .ok (.iload_n 1, 1) := by decide +kernel
theorem dX6_look_97 : decode cX6_look 97 = .ok (.ifCond .ne 7, 3) := by decide +kernel
theorem dX6_look_100 : decode cX6_look 100 = .ok (.iload_n 3, 1) := by decide +kernel
theorem dX6_look_101 : decode cX6_look 101 = .ok (.goto 4, 3) := by decide +kernel
theorem dX6_look_104 : decode cX6_look 104 = .ok (.iload_n 2, 1) := by decide +kernel
theorem dX6_look_105 : decode cX6_look 105 = .ok (.ireturn, 1) := by decide +kernel
theorem dX6_drift_0 : decode cX6_drift 0 = .ok (.iload_n 2, 1) := by decide +kernel
theorem dX6_drift_1 : decode cX6_drift 1 = .ok (.iconst 1, 1) := by decide +kernel
theorem dX6_drift_2 : decode cX6_drift 2 = .ok (.bipush 60, 2) := by decide +kernel
theorem dX6_drift_4 : decode cX6_drift 4 = .ok (.invokestatic 54, 3) := by decide +kernel
theorem dX6_drift_7 : decode cX6_drift 7 = .ok (.ifCond .ne 12, 3) := by decide +kernel
theorem dX6_drift_10 : decode cX6_drift 10 = .ok (.iload_n 3, 1) := by decide +kernel
theorem dX6_drift_11 : decode cX6_drift 11 = .ok (.iconst 0, 1) := by decide +kernel
theorem dX6_drift_12 : decode cX6_drift 12 = .ok (.iconst 1, 1) := by decide +kernel
theorem dX6_drift_13 : decode cX6_drift 13 = .ok (.invokestatic 54, 3) := by decide +kernel
theorem dX6_drift_16 : decode cX6_drift 16 = .ok (.ifCond .eq 5, 3) := by decide +kernel
theorem dX6_drift_19 : decode cX6_drift 19 = .ok (.iconst (-1), 1) := by decide +kernel
theorem dX6_drift_20 : decode cX6_drift 20 = .ok (.ireturn, 1) := by decide +kernel
theorem dX6_drift_21 : decode cX6_drift 21 = .ok (.aload_n 0, 1) := by decide +kernel
theorem dX6_drift_22 : decode cX6_drift 22 = .ok (.getfield 19, 3) := by decide +kernel
theorem dX6_drift_25 : decode cX6_drift 25 = .ok (.getfield 101, 3) := by decide +kernel
theorem dX6_drift_28 : decode cX6_drift 28 = .ok (.ifCond .ne 6, 3) := by decide +kernel
theorem dX6_drift_31 : decode cX6_drift 31 = .ok (.bipush (-2), 2) := by decide +kernel
theorem dX6_drift_33 : decode cX6_drift 33 = .ok (.ireturn, 1) := by decide +kernel
theorem dX6_drift_34 : decode cX6_drift 34 = .ok (.aload_n 0, 1) := by decide +kernel
theorem dX6_drift_35 : decode cX6_drift 35 = .ok (.invokevirtual 149, 3) := by decide +kernel
theorem dX6_drift_38 : decode cX6_drift 38 = .ok (.iload_n 1, 1) := by decide +kernel
theorem dX6_drift_39 : decode cX6_drift 39 = .ok (.istore 4, 2) := by decide +kernel
theorem dX6_drift_41 : decode cX6_drift 41 = .ok (.iconst 0, 1) := by decide +kernel
theorem dX6_drift_42 : decode cX6_drift 42 = .ok (.istore 5, 2) := by decide +kernel
theorem dX6_drift_44 : decode cX6_drift 44 = .ok (.iload 5, 2) := by decide +kernel
theorem dX6_drift_46 : decode cX6_drift 46 = .ok (.iload_n 2, 1) := by decide +kernel
theorem dX6_drift_47 : decode cX6_drift 47 = .ok (.if_icmp .ge 68, 3) := by decide +kernel
theorem dX6_drift_50 : decode cX6_drift 50 = .ok (.iload 4, 2) := by decide +kernel
theorem dX6_drift_52 : decode cX6_drift 52 = .ok (.ldc 222, 2) := by decide +kernel
theorem dX6_drift_54 : decode cX6_drift 54 = .ok (.imul, 1) := by decide +kernel
theorem dX6_drift_55 : decode cX6_drift 55 = .ok (.sipush 12345, 3) := by decide +kernel
theorem dX6_drift_58 : decode cX6_drift 58 = .ok (.iadd, 1) := by decide +kernel
theorem dX6_drift_59 : decode cX6_drift 59 = .ok (.istore 4, 2) := by decide +kernel
theorem dX6_drift_61 : decode cX6_drift 61 = .ok (.iload 4, 2) := by decide +kernel
theorem dX6_drift_63 : decode cX6_drift 63 = .ok (.bipush 16, 2) := by decide +kernel
theorem dX6_drift_65 : decode cX6_drift 65 = .ok (.iushr, 1) := by decide +kernel
theorem dX6_drift_66 : decode cX6_drift 66 = .ok (.sipush 32767, 3) := by decide +kernel
theorem dX6_drift_69 : decode cX6_drift 69 = .ok (.iand, 1) := by decide +kernel
theorem dX6_drift_70 : decode cX6_drift 70 = .ok (.istore 6, 2) := by decide +kernel
theorem dX6_drift_72 : decode cX6_drift 72 = .ok (.iload 6, 2) := by decide +kernel
theorem dX6_drift_74 : decode cX6_drift 74 = .ok (.bipush 8, 2) := by decide +kernel
theorem dX6_drift_76 : decode cX6_drift 76 = .ok (.irem, 1) := by decide +kernel
theorem dX6_drift_77 : decode cX6_drift 77 = .ok (.iconst 2, 1) := by decide +kernel
theorem dX6_drift_78 : decode cX6_drift 78 = .ok (.if_icmp .lt 31, 3) := by decide +kernel
theorem dX6_drift_81 : decode cX6_drift 81 = .ok (.aload_n 0, 1) := by decide +kernel
theorem dX6_drift_82 : decode cX6_drift 82 = .ok (.getfield 23, 3) := by decide +kernel
theorem dX6_drift_85 : decode cX6_drift 85 = .ok (.aload_n 0, 1) := by decide +kernel
theorem dX6_drift_86 : decode cX6_drift 86 = .ok (.getfield 23, 3) := by decide +kernel
theorem dX6_drift_89 : decode cX6_drift 89 = .ok (.getfield 104, 3) := by decide +kernel
theorem dX6_drift_92 : decode cX6_drift 92 = .ok (.iload 6, 2) := by decide +kernel
theorem dX6_drift_94 : decode cX6_drift 94 = .ok (.bipush 8, 2) := by decide +kernel
theorem dX6_drift_96 : decode cX6_drift 96 = .ok (.idiv, 1) := by decide +kernel
theorem dX6_drift_97 : decode cX6_drift 97 = .ok (.iconst 4, 1) := by decide +kernel
theorem dX6_drift_98 : decode cX6_drift 98 = .ok (.irem, 1) := by decide +kernel
theorem dX6_drift_99 : decode cX6_drift 99 = .ok (.invokevirtual 223, 3) := by decide +kernel
theorem dX6_drift_102 : decode cX6_drift 102 = .ok (.aload_n 0, 1) := by decide +kernel
theorem dX6_drift_103 : decode cX6_drift 103 = .ok (.getfield 23, 3) := by decide +kernel
theorem dX6_drift_106 : decode cX6_drift 106 = .ok (.invokevirtual 226, 3) := by decide +kernel
theorem dX6_drift_109 : decode cX6_drift 109 = .ok (.iinc 5 1, 3) := by decide +kernel
theorem dX6_drift_112 : decode cX6_drift 112 = .ok (.goto (-68), 3) := by decide +kernel
theorem dX6_drift_115 : decode cX6_drift 115 = .ok (.iload_n 3, 1) := by decide +kernel
theorem dX6_drift_116 : decode cX6_drift 116 = .ok (.ifCond .ne 13, 3) := by decide +kernel
theorem dX6_drift_119 : decode cX6_drift 119 = .ok (.aload_n 0, 1) := by decide +kernel
theorem dX6_drift_120 : decode cX6_drift 120 = .ok (.getfield 23, 3) := by decide +kernel
theorem dX6_drift_123 : decode cX6_drift 123 = .ok (.getfield 119, 3) := by decide +kernel
theorem dX6_drift_126 : decode cX6_drift 126 = .ok (.goto 10, 3) := by decide +kernel
theorem dX6_drift_129 : decode cX6_drift 129 = .ok (.aload_n 0, 1) := by decide +kernel
theorem dX6_drift_130 : decode cX6_drift 130 = .ok (.getfield 23, 3) := by decide +kernel
theorem dX6_drift_133 : decode cX6_drift 133 = .ok (.invokevirtual 125, 3) := by decide +kernel
theorem dX6_drift_136 : decode cX6_drift 136 = .ok (.ireturn, 1) := by decide +kernel
theorem dX6_keep_0 : decode cX6_keep 0 = .ok (.iload_n 1, 1) := by decide +kernel
theorem dX6_keep_1 : decode cX6_keep 1 = .ok (.iconst 0, 1) := by decide +kernel
theorem dX6_keep_2 : decode cX6_keep 2 = .ok (.iconst 1, 1) := by decide +kernel
theorem dX6_keep_3 : decode cX6_keep 3 = .ok (.invokestatic 54, 3) := by decide +kernel
theorem dX6_keep_6 : decode cX6_keep 6 = .ok (.ifCond .eq 5, 3) := by decide +kernel
theorem dX6_keep_9 : decode cX6_keep 9 = .ok (.iconst (-1), 1) := by decide +kernel
theorem dX6_keep_10 : decode cX6_keep 10 = .ok (.ireturn, 1) := by decide +kernel
theorem dX6_keep_11 : decode cX6_keep 11 = .ok (.aload_n 0, 1) := by decide +kernel
theorem dX6_keep_12 : decode cX6_keep 12 = .ok (.getfield 35, 3) := by decide +kernel
theorem dX6_keep_15 : decode cX6_keep 15 = .ok (.iload_n 1, 1) := by decide +kernel
theorem dX6_keep_16 : decode cX6_keep 16 = .ok (.aaload, 1) := by decide +kernel
theorem dX6_keep_17 : decode cX6_keep 17 = .ok (.astore_n 2, 1) := by decide +kernel
theorem dX6_keep_18 : decode cX6_keep 18 = .ok (.aload_n 2, 1) := by decide +kernel
theorem dX6_keep_19 : decode cX6_keep 19 = .ok (.getfield 94, 3) := by decide +kernel
theorem dX6_keep_22 : decode cX6_keep 22 = .ok (.ifCond .eq 7, 3) := by decide +kernel
theorem dX6_keep_25 : decode cX6_keep 25 = .ok (.iconst 1, 1) := by decide +kernel
theorem dX6_keep_26 : decode cX6_keep 26 = .ok (.goto 4, 3) := by decide +kernel
theorem dX6_keep_29 : decode cX6_keep 29 = .ok (.iconst 0, 1) := by decide +kernel
theorem dX6_keep_30 : decode cX6_keep 30 = .ok (.istore_n 3, 1) := by decide +kernel
theorem dX6_keep_31 : decode cX6_keep 31 = .ok (.aload_n 2, 1) := by decide +kernel
theorem dX6_keep_32 : decode cX6_keep 32 = .ok (.iconst 1, 1) := by decide +kernel
theorem dX6_keep_33 : decode cX6_keep 33 = .ok (.putfield 94, 3) := by decide +kernel
theorem dX6_keep_36 : decode cX6_keep 36 = .ok (.aload_n 2, 1) := by decide +kernel
theorem dX6_keep_37 : decode cX6_keep 37 = .ok (.getfield 229, 3) := by decide +kernel
theorem dX6_keep_40 : decode cX6_keep 40 = .ok (.aload_n 0, 1) := by decide +kernel
theorem dX6_keep_41 : decode cX6_keep 41 = .ok (.getfield 19, 3) := by decide +kernel
theorem dX6_keep_44 : decode cX6_keep 44 = .ok (.invokevirtual 87, 3) := by decide +kernel
theorem dX6_keep_47 : decode cX6_keep 47 = .ok (.aload_n 2, 1) := by decide +kernel
theorem dX6_keep_48 : decode cX6_keep 48 = .ok (.getfield 232, 3) := by decide +kernel
theorem dX6_keep_51 : decode cX6_keep 51 = .ok (.aload_n 0, 1) := by decide +kernel
theorem dX6_keep_52 : decode cX6_keep 52 = .ok (.getfield 29, 3) := by decide +kernel
theorem dX6_keep_55 : decode cX6_keep 55 = .ok (.invokevirtual 233, 3) := by decide +kernel
theorem dX6_keep_58 : decode cX6_keep 58 = .ok (.iload_n 3, 1) := by decide +kernel
theorem dX6_keep_59 : decode cX6_keep 59 = .ok (.ireturn, 1) := by decide +kernel
theorem dX6_back_0 : decode cX6_back 0 = .ok (.iload_n 1, 1) := by decide +kernel
theorem dX6_back_1 : decode cX6_back 1 = .ok (.iconst 0, 1) := by decide +kernel
theorem dX6_back_2 : decode cX6_back 2 = .ok (.iconst 1, 1) := by decide +kernel
theorem dX6_back_3 : decode cX6_back 3 = .ok (.invokestatic 54, 3) := by decide +kernel
theorem dX6_back_6 : decode cX6_back 6 = .ok (.ifCond .eq 5, 3) := by decide +kernel
theorem dX6_back_9 : decode cX6_back 9 = .ok (.iconst (-1), 1) := by decide +kernel
theorem dX6_back_10 : decode cX6_back 10 = .ok (.ireturn, 1) := by decide +kernel
theorem dX6_back_11 : decode cX6_back 11 = .ok (.aload_n 0, 1) := by decide +kernel
theorem dX6_back_12 : decode cX6_back 12 = .ok (.getfield 35, 3) := by decide +kernel
theorem dX6_back_15 : decode cX6_back 15 = .ok (.iload_n 1, 1) := by decide +kernel
theorem dX6_back_16 : decode cX6_back 16 = .ok (.aaload, 1) := by decide +kernel
theorem dX6_back_17 : decode cX6_back 17 = .ok (.astore_n 2, 1) := by decide +kernel
theorem dX6_back_18 : decode cX6_back 18 = .ok (.aload_n 2, 1) := by decide +kernel
theorem dX6_back_19 : decode cX6_back 19 = .ok (.getfield 94, 3) := by decide +kernel
theorem dX6_back_22 : decode cX6_back 22 = .ok (.ifCond .ne 6, 3) := by decide +kernel
theorem dX6_back_25 : decode cX6_back 25 = .ok (.bipush (-2), 2) := by decide +kernel
theorem dX6_back_27 : decode cX6_back 27 = .ok (.ireturn, 1) := by decide +kernel
theorem dX6_back_28 : decode cX6_back 28 = .ok (.aload_n 0, 1) := by decide +kernel
theorem dX6_back_29 : decode cX6_back 29 = .ok (.getfield 19, 3) := by decide +kernel
theorem dX6_back_32 : decode cX6_back 32 = .ok (.aload_n 2, 1) := by decide +kernel
theorem dX6_back_33 : decode cX6_back 33 = .ok (.getfield 229, 3) := by decide +kernel
theorem dX6_back_36 : decode cX6_back 36 = .ok (.invokevirtual 87, 3) := by decide +kernel
theorem dX6_back_39 : decode cX6_back 39 = .ok (.aload_n 0, 1) := by decide +kernel
theorem dX6_back_40 : decode cX6_back 40 = .ok (.getfield 29, 3) := by decide +kernel
theorem dX6_back_43 : decode cX6_back 43 = .ok (.aload_n 2, 1) := by decide +kernel
theorem dX6_back_44 : decode cX6_back 44 = .ok (.getfield 232, 3) := by decide +kernel
theorem dX6_back_47 : decode cX6_back 47 = .ok (.invokevirtual 233, 3) := by decide +kernel
theorem dX6_back_50 : decode cX6_back 50 = .ok (.aload_n 0, 1) := by decide +kernel
theorem dX6_back_51 : decode cX6_back 51 = .ok (.getfield 19, 3) := by decide +kernel
theorem dX6_back_54 : decode cX6_back 54 = .ok (.getfield 116, 3) := by decide +kernel
theorem dX6_back_57 : decode cX6_back 57 = .ok (.ireturn, 1) := by decide +kernel
theorem dX6_sheet_0 : decode cX6_sheet 0 = .ok (.iload_n 1, 1) := by decide +kernel
theorem dX6_sheet_1 : decode cX6_sheet 1 = .ok (.iconst 0, 1) := by decide +kernel
theorem dX6_sheet_2 : decode cX6_sheet 2 = .ok (.iconst 3, 1) := by decide +kernel
theorem dX6_sheet_3 : decode cX6_sheet 3 = .ok (.invokestatic 54, 3) := by decide +kernel
theorem dX6_sheet_6 : decode cX6_sheet 6 = .ok (.ifCond .ne 18, 3) := by decide +kernel
theorem dX6_sheet_9 : decode cX6_sheet 9 = .ok (.iload_n 2, 1) := by decide +kernel
theorem dX6_sheet_10 : decode cX6_sheet 10 = .ok (.iconst 0, 1) := by decide +kernel
theorem dX6_sheet_11 : decode cX6_sheet 11 = .ok (.iconst 2, 1) := by decide +kernel
theorem dX6_sheet_12 : decode cX6_sheet 12 = .ok (.invokestatic 54, 3) := by decide +kernel
theorem dX6_sheet_15 : decode cX6_sheet 15 = .ok (.ifCond .ne 9, 3) := by decide +kernel
theorem dX6_sheet_18 : decode cX6_sheet 18 = .ok (.iload_n 3, 1) := by decide +kernel
theorem dX6_sheet_19 : decode cX6_sheet 19 = .ok (.bipush 40, 2) := by decide +kernel
theorem dX6_sheet_21 : decode cX6_sheet 21 = .ok (.if_icmp .le 5, 3) := by decide +kernel
theorem dX6_sheet_24 : decode cX6_sheet 24 = .ok (.iconst (-1), 1) := by decide +kernel
theorem dX6_sheet_25 : decode cX6_sheet 25 = .ok (.ireturn, 1) := by decide +kernel
theorem dX6_sheet_26 : decode cX6_sheet 26 = .ok (.iload_n 3, 1) := by decide +kernel
theorem dX6_sheet_27 : decode cX6_sheet 27 = .ok (.ifCond .ge 6, 3) := by decide +kernel
theorem dX6_sheet_30 : decode cX6_sheet 30 = .ok (.bipush (-14), 2) := by decide +kernel
theorem dX6_sheet_32 : decode cX6_sheet 32 = .ok (.ireturn, 1) := by decide +kernel
theorem dX6_sheet_33 : decode cX6_sheet 33 = .ok (.aload_n 0, 1) := by decide +kernel
theorem dX6_sheet_34 : decode cX6_sheet 34 = .ok (.getfield 42, 3) := by decide +kernel
theorem dX6_sheet_37 : decode cX6_sheet 37 = .ok (.iload_n 1, 1) := by decide +kernel
theorem dX6_sheet_38 : decode cX6_sheet 38 = .ok (.aaload, 1) := by decide +kernel
theorem dX6_sheet_39 : decode cX6_sheet 39 = .ok (.iload_n 2, 1) := by decide +kernel
theorem dX6_sheet_40 : decode cX6_sheet 40 = .ok (.iload_n 3, 1) := by decide +kernel
theorem dX6_sheet_41 : decode cX6_sheet 41 = .ok (.invokevirtual 236, 3) := by decide +kernel
theorem dX6_sheet_44 : decode cX6_sheet 44 = .ok (.iconst 1, 1) := by decide +kernel
theorem dX6_sheet_45 : decode cX6_sheet 45 = .ok (.ireturn, 1) := by decide +kernel
theorem dX6_lay_0 : decode cX6_lay 0 = .ok (.iload_n 1, 1) := by decide +kernel
theorem dX6_lay_1 : decode cX6_lay 1 = .ok (.iconst 0, 1) := by decide +kernel
theorem dX6_lay_2 : decode cX6_lay 2 = .ok (.iconst 3, 1) := by decide +kernel
theorem dX6_lay_3 : decode cX6_lay 3 = .ok (.invokestatic 54, 3) := by decide +kernel
theorem dX6_lay_6 : decode cX6_lay 6 = .ok (.ifCond .eq 5, 3) := by decide +kernel
theorem dX6_lay_9 : decode cX6_lay 9 = .ok (.iconst (-1), 1) := by decide +kernel
theorem dX6_lay_10 : decode cX6_lay 10 = .ok (.ireturn, 1) := by decide +kernel
theorem dX6_lay_11 : decode cX6_lay 11 = .ok (.aload_n 0, 1) := by decide +kernel
theorem dX6_lay_12 : decode cX6_lay 12 = .ok (.getfield 42, 3) := by decide +kernel
theorem dX6_lay_15 : decode cX6_lay 15 = .ok (.iload_n 1, 1) := by decide +kernel
theorem dX6_lay_16 : decode cX6_lay 16 = .ok (.aaload, 1) := by decide +kernel
theorem dX6_lay_17 : decode cX6_lay 17 = .ok (.astore 4, 2) := by decide +kernel
theorem dX6_lay_19 : decode cX6_lay 19 = .ok (.aload 4, 2) := by decide +kernel
theorem dX6_lay_21 : decode cX6_lay 21 = .ok (.aload 4, 2) := by decide +kernel
theorem dX6_lay_23 : decode cX6_lay 23 = .ok (.getfield 239, 3) := by decide +kernel
theorem dX6_lay_26 : decode cX6_lay 26 = .ok (.iload_n 2, 1) := by decide +kernel
theorem dX6_lay_27 : decode cX6_lay 27 = .ok (.invokevirtual 242, 3) := by decide +kernel
theorem dX6_lay_30 : decode cX6_lay 30 = .ok (.istore 5, 2) := by decide +kernel
theorem dX6_lay_32 : decode cX6_lay 32 = .ok (.iload 5, 2) := by decide +kernel
theorem dX6_lay_34 : decode cX6_lay 34 = .ok (.ifCond .eq 9, 3) := by decide +kernel
theorem dX6_lay_37 : decode cX6_lay 37 = .ok (.bipush (-10), 2) := by decide +kernel
theorem dX6_lay_39 : decode cX6_lay 39 = .ok (.iload 5, 2) := by decide +kernel
theorem dX6_lay_41 : decode cX6_lay 41 = .ok (.isub, 1) := by decide +kernel
theorem dX6_lay_42 : decode cX6_lay 42 = .ok (.ireturn, 1) := by decide +kernel
theorem dX6_lay_43 : decode cX6_lay 43 = .ok (.aload 4, 2) := by decide +kernel
theorem dX6_lay_45 : decode cX6_lay 45 = .ok (.iload_n 2, 1) := by decide +kernel
theorem dX6_lay_46 : decode cX6_lay 46 = .ok (.iload_n 3, 1) := by decide +kernel
theorem dX6_lay_47 : decode cX6_lay 47 = .ok (.invokevirtual 245, 3) := by decide +kernel
theorem dX6_lay_50 : decode cX6_lay 50 = .ok (.iconst 1, 1) := by decide +kernel
theorem dX6_lay_51 : decode cX6_lay 51 = .ok (.ireturn, 1) := by decide +kernel
theorem dX6_read_0 : decode cX6_read 0 = .ok (.iload_n 1, 1) := by decide +kernel
theorem dX6_read_1 : decode cX6_read 1 = .ok (.iconst 0, 1) := by decide +kernel
theorem dX6_read_2 : decode cX6_read 2 = .ok (.iconst 3, 1) := by decide +kernel
theorem dX6_read_3 : decode cX6_read 3 = .ok (.invokestatic 54, 3) := by decide +kernel
theorem dX6_read_6 : decode cX6_read 6 = .ok (.ifCond .ne 23, 3) := by decide +kernel
theorem dX6_read_9 : decode cX6_read 9 = .ok (.iload_n 2, 1) := by decide +kernel
theorem dX6_read_10 : decode cX6_read 10 = .ok (.iconst 0, 1) := by decide +kernel
theorem dX6_read_11 : decode cX6_read 11 = .ok (.iconst 2, 1) := by decide +kernel
theorem dX6_read_12 : decode cX6_read 12 = .ok (.invokestatic 54, 3) := by decide +kernel
theorem dX6_read_15 : decode cX6_read 15 = .ok (.ifCond .ne 14, 3) := by decide +kernel
theorem dX6_read_18 : decode cX6_read 18 = .ok (.iload 4, 2) := by decide +kernel
theorem dX6_read_20 : decode cX6_read 20 = .ok (.iconst 0, 1) := by decide +kernel
theorem dX6_read_21 : decode cX6_read 21 = .ok (.bipush 20, 2) := by decide +kernel
theorem dX6_read_23 : decode cX6_read 23 = .ok (.invokestatic 54, 3) := by decide +kernel
theorem dX6_read_26 : decode cX6_read 26 = .ok (.ifCond .eq 5, 3) := by decide +kernel
theorem dX6_read_29 : decode cX6_read 29 = .ok (.iconst (-1), 1) := by decide +kernel
theorem dX6_read_30 : decode cX6_read 30 = .ok (.ireturn, 1) := by decide +kernel
theorem dX6_read_31 : decode cX6_read 31 = .ok (.aload_n 0, 1) := by decide +kernel
theorem dX6_read_32 : decode cX6_read 32 = .ok (.getfield 42, 3) := by decide +kernel
theorem dX6_read_35 : decode cX6_read 35 = .ok (.iload_n 1, 1) := by decide +kernel
theorem dX6_read_36 : decode cX6_read 36 = .ok (.aaload, 1) := by decide +kernel
theorem dX6_read_37 : decode cX6_read 37 = .ok (.astore 5, 2) := by decide +kernel
theorem dX6_read_39 : decode cX6_read 39 = .ok (.aload_n 0, 1) := by decide +kernel
theorem dX6_read_40 : decode cX6_read 40 = .ok (.getfield 23, 3) := by decide +kernel
theorem dX6_read_43 : decode cX6_read 43 = .ok (.aload_n 0, 1) := by decide +kernel
theorem dX6_read_44 : decode cX6_read 44 = .ok (.getfield 19, 3) := by decide +kernel
theorem dX6_read_47 : decode cX6_read 47 = .ok (.invokevirtual 87, 3) := by decide +kernel
theorem dX6_read_50 : decode cX6_read 50 = .ok (.iconst 0, 1) := by decide +kernel
theorem dX6_read_51 : decode cX6_read 51 = .ok (.istore 6, 2) := by decide +kernel
theorem dX6_read_53 : decode cX6_read 53 = .ok (.iconst 0, 1) := by decide +kernel
theorem dX6_read_54 : decode cX6_read 54 = .ok (.istore 7, 2) := by decide +kernel
theorem dX6_read_56 : decode cX6_read 56 = .ok (.iload 7, 2) := by decide +kernel
theorem dX6_read_58 : decode cX6_read 58 = .ok (.iload 4, 2) := by decide +kernel
theorem dX6_read_60 : decode cX6_read 60 = .ok (.if_icmp .ge 69, 3) := by decide +kernel
theorem dX6_read_63 : decode cX6_read 63 = .ok (.iload 6, 2) := by decide +kernel
theorem dX6_read_65 : decode cX6_read 65 = .ok (.ifCond .ne 64, 3) := by decide +kernel
theorem dX6_read_68 : decode cX6_read 68 = .ok (.iload_n 3, 1) := by decide +kernel
theorem dX6_read_69 : decode cX6_read 69 = .ok (.iconst 2, 1) := by decide +kernel
theorem dX6_read_70 : decode cX6_read 70 = .ok (.iload 7, 2) := by decide +kernel
theorem dX6_read_72 : decode cX6_read 72 = .ok (.imul, 1) := by decide +kernel
theorem dX6_read_73 : decode cX6_read 73 = .ok (.iadd, 1) := by decide +kernel
theorem dX6_read_74 : decode cX6_read 74 = .ok (.istore 8, 2) := by decide +kernel
theorem dX6_read_76 : decode cX6_read 76 = .ok (.aload 5, 2) := by decide +kernel
theorem dX6_read_78 : decode cX6_read 78 = .ok (.iload_n 2, 1) := by decide +kernel
theorem dX6_read_79 : decode cX6_read 79 = .ok (.iload 8, 2) := by decide +kernel
theorem dX6_read_81 : decode cX6_read 81 = .ok (.invokevirtual 248, 3) := by decide +kernel
theorem dX6_read_84 : decode cX6_read 84 = .ok (.istore 6, 2) := by decide +kernel
theorem dX6_read_86 : decode cX6_read 86 = .ok (.iload 6, 2) := by decide +kernel
theorem dX6_read_88 : decode cX6_read 88 = .ok (.ifCond .ne 38, 3) := by decide +kernel
theorem dX6_read_91 : decode cX6_read 91 = .ok (.aload_n 0, 1) := by decide +kernel
theorem dX6_read_92 : decode cX6_read 92 = .ok (.getfield 23, 3) := by decide +kernel
theorem dX6_read_95 : decode cX6_read 95 = .ok (.aload 5, 2) := by decide +kernel
theorem dX6_read_97 : decode cX6_read 97 = .ok (.iload 8, 2) := by decide +kernel
theorem dX6_read_99 : decode cX6_read 99 = .ok (.invokevirtual 251, 3) := by decide +kernel
theorem dX6_read_102 : decode cX6_read 102 = .ok (.aload 5, 2) := by decide +kernel
theorem dX6_read_104 : decode cX6_read 104 = .ok (.iload 8, 2) := by decide +kernel
theorem dX6_read_106 : decode cX6_read 106 = .ok (.iconst 1, 1) := by decide +kernel
theorem dX6_read_107 : decode cX6_read 107 = .ok (.iadd, 1) := by decide +kernel
theorem dX6_read_108 : decode cX6_read 108 = .ok (.invokevirtual 251, 3) := by decide +kernel
theorem dX6_read_111 : decode cX6_read 111 = .ok (.invokevirtual 141, 3) := by decide +kernel
theorem dX6_read_114 : decode cX6_read 114 = .ok (.ifCond .ge 9, 3) := by decide +kernel
theorem dX6_read_117 : decode cX6_read 117 = .ok (.bipush (-20), 2) := by decide +kernel
theorem dX6_read_119 : decode cX6_read 119 = .ok (.iload 7, 2) := by decide +kernel
theorem dX6_read_121 : decode cX6_read 121 = .ok (.isub, 1) := by decide +kernel
theorem dX6_read_122 : decode cX6_read 122 = .ok (.ireturn, 1) := by decide +kernel
theorem dX6_read_123 : decode cX6_read 123 = .ok (.iinc 7 1, 3) := by decide +kernel
theorem dX6_read_126 : decode cX6_read 126 = .ok (.goto (-70), 3) := by decide +kernel
theorem dX6_read_129 : decode cX6_read 129 = .ok (.aload_n 0, 1) := by decide +kernel
theorem dX6_read_130 : decode cX6_read 130 = .ok (.getfield 19, 3) := by decide +kernel
theorem dX6_read_133 : decode cX6_read 133 = .ok (.aload_n 0, 1) := by decide +kernel
theorem dX6_read_134 : decode cX6_read 134 = .ok (.getfield 23, 3) := by decide +kernel
theorem dX6_read_137 : decode cX6_read 137 = .ok (.invokevirtual 87, 3) := by decide +kernel
theorem dX6_read_140 : decode cX6_read 140 = .ok (.aload_n 0, 1) := by decide +kernel
theorem dX6_read_141 : decode cX6_read 141 = .ok (.iload 6, 2) := by decide +kernel
theorem dX6_read_143 : decode cX6_read 143 = .ok (.putfield 254, 3) := by decide +kernel
theorem dX6_read_146 : decode cX6_read 146 = .ok (.iload 7, 2) := by decide +kernel
theorem dX6_read_148 : decode cX6_read 148 = .ok (.ireturn, 1) := by decide +kernel
theorem dX6_torn_0 : decode cX6_torn 0 = .ok (.aload_n 0, 1) := by decide +kernel
theorem dX6_torn_1 : decode cX6_torn 1 = .ok (.getfield 254, 3) := by decide +kernel
theorem dX6_torn_4 : decode cX6_torn 4 = .ok (.ireturn, 1) := by decide +kernel
theorem dX6_count_0 : decode cX6_count 0 = .ok (.iload_n 1, 1) := by decide +kernel
theorem dX6_count_1 : decode cX6_count 1 = .ok (.tableswitch 94 0 4 #[35, 43, 51, 56, 67], 35) := by decide +kernel
theorem dX6_count_36 : decode cX6_count 36 = .ok (.aload_n 0, 1) := by decide +kernel
theorem dX6_count_37 : decode cX6_count 37 = .ok (.getfield 19, 3) := by decide +kernel
theorem dX6_count_40 : decode cX6_count 40 = .ok (.invokevirtual 257, 3) := by decide +kernel
theorem dX6_count_43 : decode cX6_count 43 = .ok (.ireturn, 1) := by decide +kernel
theorem dX6_count_44 : decode cX6_count 44 = .ok (.aload_n 0, 1) := by decide +kernel
theorem dX6_count_45 : decode cX6_count 45 = .ok (.getfield 29, 3) := by decide +kernel
theorem dX6_count_48 : decode cX6_count 48 = .ok (.getfield 91, 3) := by decide +kernel
theorem dX6_count_51 : decode cX6_count 51 = .ok (.ireturn, 1) := by decide +kernel
theorem dX6_count_52 : decode cX6_count 52 = .ok (.aload_n 0, 1) := by decide +kernel
theorem dX6_count_53 : decode cX6_count 53 = .ok (.invokevirtual 260, 3) := by decide +kernel
theorem dX6_count_56 : decode cX6_count 56 = .ok (.ireturn, 1) := by decide +kernel
theorem dX6_count_57 : decode cX6_count 57 = .ok (.aload_n 0, 1) := by decide +kernel
theorem dX6_count_58 : decode cX6_count 58 = .ok (.getfield 10, 3) := by decide +kernel
theorem dX6_count_61 : decode cX6_count 61 = .ok (.getfield 58, 3) := by decide +kernel
theorem dX6_count_64 : decode cX6_count 64 = .ok (.getfield 68, 3) := by decide +kernel
theorem dX6_count_67 : decode cX6_count 67 = .ok (.ireturn, 1) := by decide +kernel
theorem dX6_count_68 : decode cX6_count 68 = .ok (.aload_n 0, 1) := by decide +kernel
theorem dX6_count_69 : decode cX6_count 69 = .ok (.getfield 42, 3) := by decide +kernel
theorem dX6_count_72 : decode cX6_count 72 = .ok (.iconst 0, 1) := by decide +kernel
theorem dX6_count_73 : decode cX6_count 73 = .ok (.aaload, 1) := by decide +kernel
theorem dX6_count_74 : decode cX6_count 74 = .ok (.getfield 263, 3) := by decide +kernel
theorem dX6_count_77 : decode cX6_count 77 = .ok (.ifCond .eq 15, 3) := by decide +kernel
theorem dX6_count_80 : decode cX6_count 80 = .ok (.aload_n 0, 1) := by decide +kernel
theorem dX6_count_81 : decode cX6_count 81 = .ok (.getfield 42, 3) := by decide +kernel
theorem dX6_count_84 : decode cX6_count 84 = .ok (.iconst 0, 1) := by decide +kernel
theorem dX6_count_85 : decode cX6_count 85 = .ok (.aaload, 1) := by decide +kernel
theorem dX6_count_86 : decode cX6_count 86 = .ok (.getfield 264, 3) := by decide +kernel
theorem dX6_count_89 : decode cX6_count 89 = .ok (.goto 5, 3) := by decide +kernel
theorem dX6_count_92 : decode cX6_count 92 = .ok (.bipush (-4), 2) := by decide +kernel
theorem dX6_count_94 : decode cX6_count 94 = .ok (.ireturn, 1) := by decide +kernel
theorem dX6_count_95 : decode cX6_count 95 = .ok (.iconst (-1), 1) := by decide +kernel
theorem dX6_count_96 : decode cX6_count 96 = .ok (.ireturn, 1) := by decide +kernel
theorem dX6_outside_0 : decode cX6_outside 0 = .ok (.iload_n 0, 1) := by decide +kernel
theorem dX6_outside_1 : decode cX6_outside 1 = .ok (.iload_n 1, 1) := by decide +kernel
theorem dX6_outside_2 : decode cX6_outside 2 = .ok (.if_icmp .lt 8, 3) := by decide +kernel
theorem dX6_outside_5 : decode cX6_outside 5 = .ok (.iload_n 0, 1) := by decide +kernel
theorem dX6_outside_6 : decode cX6_outside 6 = .ok (.iload_n 2, 1) := by decide +kernel
theorem dX6_outside_7 : decode cX6_outside 7 = .ok (.if_icmp .le 7, 3) := by decide +kernel
theorem dX6_outside_10 : decode cX6_outside 10 = .ok (.iconst 1, 1) := by decide +kernel
theorem dX6_outside_11 : decode cX6_outside 11 = .ok (.goto 4, 3) := by decide +kernel
theorem dX6_outside_14 : decode cX6_outside 14 = .ok (.iconst 0, 1) := by decide +kernel
theorem dX6_outside_15 : decode cX6_outside 15 = .ok (.ireturn, 1) := by decide +kernel
theorem dX6_startTrial_0 : decode cX6_startTrial 0 = .ok (.aload_n 0, 1) := by decide +kernel
theorem dX6_startTrial_1 : decode cX6_startTrial 1 = .ok (.getfield 23, 3) := by decide +kernel
theorem dX6_startTrial_4 : decode cX6_startTrial 4 = .ok (.aload_n 0, 1) := by decide +kernel
theorem dX6_startTrial_5 : decode cX6_startTrial 5 = .ok (.getfield 19, 3) := by decide +kernel
theorem dX6_startTrial_8 : decode cX6_startTrial 8 = .ok (.invokevirtual 87, 3) := by decide +kernel
theorem dX6_startTrial_11 : decode cX6_startTrial 11 = .ok (.aload_n 0, 1) := by decide +kernel
theorem dX6_startTrial_12 : decode cX6_startTrial 12 = .ok (.getfield 23, 3) := by decide +kernel
theorem dX6_startTrial_15 : decode cX6_startTrial 15 = .ok (.invokevirtual 265, 3) := by decide +kernel
theorem dX6_startTrial_18 : decode cX6_startTrial 18 = .ok (.return_, 1) := by decide +kernel
theorem dX6_lossAsItIs_0 : decode cX6_lossAsItIs 0 = .ok (.aload_n 0, 1) := by decide +kernel
theorem dX6_lossAsItIs_1 : decode cX6_lossAsItIs 1 = .ok (.invokevirtual 149, 3) := by decide +kernel
theorem dX6_lossAsItIs_4 : decode cX6_lossAsItIs 4 = .ok (.aload_n 0, 1) := by decide +kernel
theorem dX6_lossAsItIs_5 : decode cX6_lossAsItIs 5 = .ok (.getfield 23, 3) := by decide +kernel
theorem dX6_lossAsItIs_8 : decode cX6_lossAsItIs 8 = .ok (.iload_n 1, 1) := by decide +kernel
theorem dX6_lossAsItIs_9 : decode cX6_lossAsItIs 9 = .ok (.invokevirtual 145, 3) := by decide +kernel
theorem dX6_lossAsItIs_12 : decode cX6_lossAsItIs 12 = .ok (.aload_n 0, 1) := by decide +kernel
theorem dX6_lossAsItIs_13 : decode cX6_lossAsItIs 13 = .ok (.getfield 23, 3) := by decide +kernel
theorem dX6_lossAsItIs_16 : decode cX6_lossAsItIs 16 = .ok (.invokevirtual 172, 3) := by decide +kernel
theorem dX6_lossAsItIs_19 : decode cX6_lossAsItIs 19 = .ok (.ireturn, 1) := by decide +kernel
theorem dX6_lossByKinds_0 : decode cX6_lossByKinds 0 = .ok (.aload_n 0, 1) := by decide +kernel
theorem dX6_lossByKinds_1 : decode cX6_lossByKinds 1 = .ok (.invokevirtual 149, 3) := by decide +kernel
theorem dX6_lossByKinds_4 : decode cX6_lossByKinds 4 = .ok (.aload_n 0, 1) := by decide +kernel
theorem dX6_lossByKinds_5 : decode cX6_lossByKinds 5 = .ok (.getfield 23, 3) := by decide +kernel
theorem dX6_lossByKinds_8 : decode cX6_lossByKinds 8 = .ok (.iload_n 1, 1) := by decide +kernel
theorem dX6_lossByKinds_9 : decode cX6_lossByKinds 9 = .ok (.invokevirtual 268, 3) := by decide +kernel
theorem dX6_lossByKinds_12 : decode cX6_lossByKinds 12 = .ok (.aload_n 0, 1) := by decide +kernel
theorem dX6_lossByKinds_13 : decode cX6_lossByKinds 13 = .ok (.getfield 23, 3) := by decide +kernel
theorem dX6_lossByKinds_16 : decode cX6_lossByKinds 16 = .ok (.iload_n 2, 1) := by decide +kernel
theorem dX6_lossByKinds_17 : decode cX6_lossByKinds 17 = .ok (.invokevirtual 145, 3) := by decide +kernel
theorem dX6_lossByKinds_20 : decode cX6_lossByKinds 20 = .ok (.aload_n 0, 1) := by decide +kernel
theorem dX6_lossByKinds_21 : decode cX6_lossByKinds 21 = .ok (.getfield 23, 3) := by decide +kernel
theorem dX6_lossByKinds_24 : decode cX6_lossByKinds 24 = .ok (.invokevirtual 172, 3) := by decide +kernel
theorem dX6_lossByKinds_27 : decode cX6_lossByKinds 27 = .ok (.ireturn, 1) := by decide +kernel
theorem dX6_playWith_0 : decode cX6_playWith 0 = .ok (.aload_n 0, 1) := by decide +kernel
theorem dX6_playWith_1 : decode cX6_playWith 1 = .ok (.invokevirtual 149, 3) := by decide +kernel
theorem dX6_playWith_4 : decode cX6_playWith 4 = .ok (.aload_n 0, 1) := by decide +kernel
theorem dX6_playWith_5 : decode cX6_playWith 5 = .ok (.getfield 23, 3) := by decide +kernel
theorem dX6_playWith_8 : decode cX6_playWith 8 = .ok (.iload_n 1, 1) := by decide +kernel
theorem dX6_playWith_9 : decode cX6_playWith 9 = .ok (.iload_n 2, 1) := by decide +kernel
theorem dX6_playWith_10 : decode cX6_playWith 10 = .ok (.invokevirtual 271, 3) := by decide +kernel
theorem dX6_playWith_13 : decode cX6_playWith 13 = .ok (.aload_n 0, 1) := by decide +kernel
theorem dX6_playWith_14 : decode cX6_playWith 14 = .ok (.getfield 23, 3) := by decide +kernel
theorem dX6_playWith_17 : decode cX6_playWith 17 = .ok (.iload_n 3, 1) := by decide +kernel
theorem dX6_playWith_18 : decode cX6_playWith 18 = .ok (.invokevirtual 145, 3) := by decide +kernel
theorem dX6_playWith_21 : decode cX6_playWith 21 = .ok (.aload_n 0, 1) := by decide +kernel
theorem dX6_playWith_22 : decode cX6_playWith 22 = .ok (.getfield 23, 3) := by decide +kernel
theorem dX6_playWith_25 : decode cX6_playWith 25 = .ok (.areturn, 1) := by decide +kernel
theorem dX6_oddsOfOut_0 : decode cX6_oddsOfOut 0 = .ok (.iload_n 1, 1) := by decide +kernel
theorem dX6_oddsOfOut_1 : decode cX6_oddsOfOut 1 = .ok (.invokestatic 175, 3) := by decide +kernel
theorem dX6_oddsOfOut_4 : decode cX6_oddsOfOut 4 = .ok (.istore_n 3, 1) := by decide +kernel
theorem dX6_oddsOfOut_5 : decode cX6_oddsOfOut 5 = .ok (.iload_n 2, 1) := by decide +kernel
theorem dX6_oddsOfOut_6 : decode cX6_oddsOfOut 6 = .ok (.iload_n 3, 1) := by decide +kernel
theorem dX6_oddsOfOut_7 : decode cX6_oddsOfOut 7 = .ok (.invokestatic 197, 3) := by decide +kernel
theorem dX6_oddsOfOut_10 : decode cX6_oddsOfOut 10 = .ok (.bipush 10, 2) := by decide +kernel
theorem dX6_oddsOfOut_12 : decode cX6_oddsOfOut 12 = .ok (.iload_n 2, 1) := by decide +kernel
theorem dX6_oddsOfOut_13 : decode cX6_oddsOfOut 13 = .ok (.isub, 1) := by decide +kernel
theorem dX6_oddsOfOut_14 : decode cX6_oddsOfOut 14 = .ok (.aload_n 0, 1) := by decide +kernel
theorem dX6_oddsOfOut_15 : decode cX6_oddsOfOut 15 = .ok (.getfield 19, 3) := by decide +kernel
theorem dX6_oddsOfOut_18 : decode cX6_oddsOfOut 18 = .ok (.getfield 101, 3) := by decide +kernel
theorem dX6_oddsOfOut_21 : decode cX6_oddsOfOut 21 = .ok (.iload_n 3, 1) := by decide +kernel
theorem dX6_oddsOfOut_22 : decode cX6_oddsOfOut 22 = .ok (.isub, 1) := by decide +kernel
theorem dX6_oddsOfOut_23 : decode cX6_oddsOfOut 23 = .ok (.invokestatic 197, 3) := by decide +kernel
theorem dX6_oddsOfOut_26 : decode cX6_oddsOfOut 26 = .ok (.lmul, 1) := by decide +kernel
theorem dX6_oddsOfOut_27 : decode cX6_oddsOfOut 27 = .ok (.lreturn, 1) := by decide +kernel
theorem dX6_power_0 : decode cX6_power 0 = .ok (.lconst 1, 1) := by decide +kernel
theorem dX6_power_1 : decode cX6_power 1 = .ok (.lstore_n 2, 1) := by decide +kernel
theorem dX6_power_2 : decode cX6_power 2 = .ok (.iconst 0, 1) := by decide +kernel
theorem dX6_power_3 : decode cX6_power 3 = .ok (.istore 4, 2) := by decide +kernel
theorem dX6_power_5 : decode cX6_power 5 = .ok (.iload 4, 2) := by decide +kernel
theorem dX6_power_7 : decode cX6_power 7 = .ok (.iload_n 1, 1) := by decide +kernel
theorem dX6_power_8 : decode cX6_power 8 = .ok (.if_icmp .ge 14, 3) := by decide +kernel
theorem dX6_power_11 : decode cX6_power 11 = .ok (.lload_n 2, 1) := by decide +kernel
theorem dX6_power_12 : decode cX6_power 12 = .ok (.iload_n 0, 1) := by decide +kernel
theorem dX6_power_13 : decode cX6_power 13 = .ok (.i2l, 1) := by decide +kernel
theorem dX6_power_14 : decode cX6_power 14 = .ok (.lmul, 1) := by decide +kernel
theorem dX6_power_15 : decode cX6_power 15 = .ok (.lstore_n 2, 1) := by decide +kernel
theorem dX6_power_16 : decode cX6_power 16 = .ok (.iinc 4 1, 3) := by decide +kernel
theorem dX6_power_19 : decode cX6_power 19 = .ok (.goto (-14), 3) := by decide +kernel
theorem dX6_power_22 : decode cX6_power 22 = .ok (.lload_n 2, 1) := by decide +kernel
theorem dX6_power_23 : decode cX6_power 23 = .ok (.lreturn, 1) := by decide +kernel
theorem dX6_factorial_0 : decode cX6_factorial 0 = .ok (.iload_n 0, 1) := by decide +kernel
theorem dX6_factorial_1 : decode cX6_factorial 1 = .ok (.iconst 0, 1) := by decide +kernel
theorem dX6_factorial_2 : decode cX6_factorial 2 = .ok (.iconst 5, 1) := by decide +kernel
theorem dX6_factorial_3 : decode cX6_factorial 3 = .ok (.invokestatic 54, 3) := by decide +kernel
theorem dX6_factorial_6 : decode cX6_factorial 6 = .ok (.ifCond .eq 7, 3) := by decide +kernel
theorem dX6_factorial_9 : decode cX6_factorial 9 = .ok (.lconst 0, 1) := by decide +kernel
theorem dX6_factorial_10 : decode cX6_factorial 10 = .ok (.goto 9, 3) := by decide +kernel
theorem dX6_factorial_13 : decode cX6_factorial 13 = .ok (.getstatic 274, 3) := by decide +kernel
theorem dX6_factorial_16 : decode cX6_factorial 16 = .ok (.iload_n 0, 1) := by decide +kernel
theorem dX6_factorial_17 : decode cX6_factorial 17 = .ok (.iaload, 1) := by decide +kernel
theorem dX6_factorial_18 : decode cX6_factorial 18 = .ok (.i2l, 1) := by decide +kernel
theorem dX6_factorial_19 : decode cX6_factorial 19 = .ok (.lreturn, 1) := by decide +kernel
theorem dX6_partOfFraction_0 : decode cX6_partOfFraction 0 = .ok (.lload_n 0, 1) := by decide +kernel
theorem dX6_partOfFraction_1 : decode cX6_partOfFraction 1 = .ok (.invokestatic 277, 3) := by decide +kernel
theorem dX6_partOfFraction_4 : decode cX6_partOfFraction 4 = .ok (.lload_n 2, 1) := by decide +kernel
theorem dX6_partOfFraction_5 : decode cX6_partOfFraction 5 = .ok (.invokestatic 283, 3) := by decide +kernel
theorem dX6_partOfFraction_8 : decode cX6_partOfFraction 8 = .ok (.lstore 5, 2) := by decide +kernel
theorem dX6_partOfFraction_10 : decode cX6_partOfFraction 10 = .ok (.lload 5, 2) := by decide +kernel
theorem dX6_partOfFraction_12 : decode cX6_partOfFraction 12 = .ok (.lconst 0, 1) := by decide +kernel
theorem dX6_partOfFraction_13 : decode cX6_partOfFraction 13 = .ok (.lcmp, 1) := by decide +kernel
theorem dX6_partOfFraction_14 : decode cX6_partOfFraction 14 = .ok (.ifCond .ne 5, 3) := by decide +kernel
theorem dX6_partOfFraction_17 : decode cX6_partOfFraction 17 = .ok (.lconst 0, 1) := by decide +kernel
theorem dX6_partOfFraction_18 : decode cX6_partOfFraction 18 = .ok (.lreturn, 1) := by decide +kernel
theorem dX6_partOfFraction_19 : decode cX6_partOfFraction 19 = .ok (.iload 4, 2) := by decide +kernel
theorem dX6_partOfFraction_21 : decode cX6_partOfFraction 21 = .ok (.ifCond .ne 10, 3) := by decide +kernel
theorem dX6_partOfFraction_24 : decode cX6_partOfFraction 24 = .ok (.lload_n 0, 1) := by decide +kernel
theorem dX6_partOfFraction_25 : decode cX6_partOfFraction 25 = .ok (.lload 5, 2) := by decide +kernel
theorem dX6_partOfFraction_27 : decode cX6_partOfFraction 27 = .ok (.ldiv, 1) := by decide +kernel
theorem dX6_partOfFraction_28 : decode cX6_partOfFraction 28 = .ok (.goto 7, 3) := by decide +kernel
theorem dX6_partOfFraction_31 : decode cX6_partOfFraction 31 = .ok (.lload_n 2, 1) := by decide +kernel
theorem dX6_partOfFraction_32 : decode cX6_partOfFraction 32 = .ok (.lload 5, 2) := by decide +kernel
theorem dX6_partOfFraction_34 : decode cX6_partOfFraction 34 = .ok (.ldiv, 1) := by decide +kernel
theorem dX6_partOfFraction_35 : decode cX6_partOfFraction 35 = .ok (.lreturn, 1) := by decide +kernel
theorem dX6_commonDivisor_0 : decode cX6_commonDivisor 0 = .ok (.lload_n 0, 1) := by decide +kernel
theorem dX6_commonDivisor_1 : decode cX6_commonDivisor 1 = .ok (.lstore 4, 2) := by decide +kernel
theorem dX6_commonDivisor_3 : decode cX6_commonDivisor 3 = .ok (.lload_n 2, 1) := by decide +kernel
theorem dX6_commonDivisor_4 : decode cX6_commonDivisor 4 = .ok (.lstore 6, 2) := by decide +kernel
theorem dX6_commonDivisor_6 : decode cX6_commonDivisor 6 = .ok (.iconst 0, 1) := by decide +kernel
theorem dX6_commonDivisor_7 : decode cX6_commonDivisor 7 = .ok (.istore 8, 2) := by decide +kernel
theorem dX6_commonDivisor_9 : decode cX6_commonDivisor 9 = .ok (.iload 8, 2) := by decide +kernel
theorem dX6_commonDivisor_11 : decode cX6_commonDivisor 11 = .ok (.sipush 128, 3) := by decide +kernel
theorem dX6_commonDivisor_14 : decode cX6_commonDivisor 14 = .ok (.if_icmp .ge 31, 3) := by decide +kernel
theorem dX6_commonDivisor_17 : decode cX6_commonDivisor 17 = .ok (.lload 6, 2) := by decide +kernel
theorem dX6_commonDivisor_19 : decode cX6_commonDivisor 19 = .ok (.lconst 0, 1) := by decide +kernel
theorem dX6_commonDivisor_20 : decode cX6_commonDivisor 20 = .ok (.lcmp, 1) := by decide +kernel
theorem dX6_commonDivisor_21 : decode cX6_commonDivisor 21 = .ok (.ifCond .eq 24, 3) := by decide +kernel
theorem dX6_commonDivisor_24 : decode cX6_commonDivisor 24 = .ok (.lload 4, 2) := by decide +kernel
theorem dX6_commonDivisor_26 : decode cX6_commonDivisor 26 = .ok (.lload 6, 2) := by decide +kernel
theorem dX6_commonDivisor_28 : decode cX6_commonDivisor 28 = .ok (.lrem, 1) := by decide +kernel
theorem dX6_commonDivisor_29 : decode cX6_commonDivisor 29 = .ok (.lstore 9, 2) := by decide +kernel
theorem dX6_commonDivisor_31 : decode cX6_commonDivisor 31 = .ok (.lload 6, 2) := by decide +kernel
theorem dX6_commonDivisor_33 : decode cX6_commonDivisor 33 = .ok (.lstore 4, 2) := by decide +kernel
theorem dX6_commonDivisor_35 : decode cX6_commonDivisor 35 = .ok (.lload 9, 2) := by decide +kernel
theorem dX6_commonDivisor_37 : decode cX6_commonDivisor 37 = .ok (.lstore 6, 2) := by decide +kernel
theorem dX6_commonDivisor_39 : decode cX6_commonDivisor 39 = .ok (.iinc 8 1, 3) := by decide +kernel
theorem dX6_commonDivisor_42 : decode cX6_commonDivisor 42 = .ok (.goto (-33), 3) := by decide +kernel
theorem dX6_commonDivisor_45 : decode cX6_commonDivisor 45 = .ok (.lload 4, 2) := by decide +kernel
theorem dX6_commonDivisor_47 : decode cX6_commonDivisor 47 = .ok (.lreturn, 1) := by decide +kernel
theorem dX6_slot_0 : decode cX6_slot 0 = .ok (.iload_n 0, 1) := by decide +kernel
theorem dX6_slot_1 : decode cX6_slot 1 = .ok (.bipush 9, 2) := by decide +kernel
theorem dX6_slot_3 : decode cX6_slot 3 = .ok (.imul, 1) := by decide +kernel
theorem dX6_slot_4 : decode cX6_slot 4 = .ok (.iload_n 1, 1) := by decide +kernel
theorem dX6_slot_5 : decode cX6_slot 5 = .ok (.iadd, 1) := by decide +kernel
theorem dX6_slot_6 : decode cX6_slot 6 = .ok (.iconst 1, 1) := by decide +kernel
theorem dX6_slot_7 : decode cX6_slot 7 = .ok (.isub, 1) := by decide +kernel
theorem dX6_slot_8 : decode cX6_slot 8 = .ok (.ireturn, 1) := by decide +kernel
theorem dX6_tryKinds_0 : decode cX6_tryKinds 0 = .ok (.aload_n 0, 1) := by decide +kernel
theorem dX6_tryKinds_1 : decode cX6_tryKinds 1 = .ok (.invokevirtual 149, 3) := by decide +kernel
theorem dX6_tryKinds_4 : decode cX6_tryKinds 4 = .ok (.aload_n 0, 1) := by decide +kernel
theorem dX6_tryKinds_5 : decode cX6_tryKinds 5 = .ok (.getfield 23, 3) := by decide +kernel
theorem dX6_tryKinds_8 : decode cX6_tryKinds 8 = .ok (.iload_n 1, 1) := by decide +kernel
theorem dX6_tryKinds_9 : decode cX6_tryKinds 9 = .ok (.invokevirtual 268, 3) := by decide +kernel
theorem dX6_tryKinds_12 : decode cX6_tryKinds 12 = .ok (.iconst 1, 1) := by decide +kernel
theorem dX6_tryKinds_13 : decode cX6_tryKinds 13 = .ok (.istore_n 3, 1) := by decide +kernel
theorem dX6_tryKinds_14 : decode cX6_tryKinds 14 = .ok (.iload_n 3, 1) := by decide +kernel
theorem dX6_tryKinds_15 : decode cX6_tryKinds 15 = .ok (.iload_n 2, 1) := by decide +kernel
theorem dX6_tryKinds_16 : decode cX6_tryKinds 16 = .ok (.if_icmp .gt 64, 3) := by decide +kernel
theorem dX6_tryKinds_19 : decode cX6_tryKinds 19 = .ok (.iload_n 3, 1) := by decide +kernel
theorem dX6_tryKinds_20 : decode cX6_tryKinds 20 = .ok (.bipush 9, 2) := by decide +kernel
theorem dX6_tryKinds_22 : decode cX6_tryKinds 22 = .ok (.if_icmp .gt 58, 3) := by decide +kernel
theorem dX6_tryKinds_25 : decode cX6_tryKinds 25 = .ok (.aload_n 0, 1) := by decide +kernel
theorem dX6_tryKinds_26 : decode cX6_tryKinds 26 = .ok (.getfield 23, 3) := by decide +kernel
theorem dX6_tryKinds_29 : decode cX6_tryKinds 29 = .ok (.invokevirtual 152, 3) := by decide +kernel
theorem dX6_tryKinds_32 : decode cX6_tryKinds 32 = .ok (.iconst 0, 1) := by decide +kernel
theorem dX6_tryKinds_33 : decode cX6_tryKinds 33 = .ok (.istore 4, 2) := by decide +kernel
theorem dX6_tryKinds_35 : decode cX6_tryKinds 35 = .ok (.iload 4, 2) := by decide +kernel
theorem dX6_tryKinds_37 : decode cX6_tryKinds 37 = .ok (.aload_n 0, 1) := by decide +kernel
theorem dX6_tryKinds_38 : decode cX6_tryKinds 38 = .ok (.getfield 23, 3) := by decide +kernel
theorem dX6_tryKinds_41 : decode cX6_tryKinds 41 = .ok (.getfield 101, 3) := by decide +kernel
theorem dX6_tryKinds_44 : decode cX6_tryKinds 44 = .ok (.if_icmp .ge 30, 3) := by decide +kernel
theorem dX6_tryKinds_47 : decode cX6_tryKinds 47 = .ok (.aload_n 0, 1) := by decide +kernel
theorem dX6_tryKinds_48 : decode cX6_tryKinds 48 = .ok (.getfield 47, 3) := by decide +kernel
theorem dX6_tryKinds_51 : decode cX6_tryKinds 51 = .ok (.iload 4, 2) := by decide +kernel
theorem dX6_tryKinds_53 : decode cX6_tryKinds 53 = .ok (.iload_n 3, 1) := by decide +kernel
theorem dX6_tryKinds_54 : decode cX6_tryKinds 54 = .ok (.invokestatic 216, 3) := by decide +kernel
theorem dX6_tryKinds_57 : decode cX6_tryKinds 57 = .ok (.aload_n 0, 1) := by decide +kernel
theorem dX6_tryKinds_58 : decode cX6_tryKinds 58 = .ok (.getfield 23, 3) := by decide +kernel
theorem dX6_tryKinds_61 : decode cX6_tryKinds 61 = .ok (.getfield 135, 3) := by decide +kernel
theorem dX6_tryKinds_64 : decode cX6_tryKinds 64 = .ok (.iload 4, 2) := by decide +kernel
theorem dX6_tryKinds_66 : decode cX6_tryKinds 66 = .ok (.iaload, 1) := by decide +kernel
theorem dX6_tryKinds_67 : decode cX6_tryKinds 67 = .ok (.iastore, 1) := by decide +kernel
theorem dX6_tryKinds_68 : decode cX6_tryKinds 68 = .ok (.iinc 4 1, 3) := by decide +kernel
theorem dX6_tryKinds_71 : decode cX6_tryKinds 71 = .ok (.goto (-36), 3) := by decide +kernel
theorem dX6_tryKinds_74 : decode cX6_tryKinds 74 = .ok (.iinc 3 1, 3) := by decide +kernel
theorem dX6_tryKinds_77 : decode cX6_tryKinds 77 = .ok (.goto (-63), 3) := by decide +kernel
theorem dX6_tryKinds_80 : decode cX6_tryKinds 80 = .ok (.return_, 1) := by decide +kernel
theorem dX6_tallyFitting_0 : decode cX6_tallyFitting 0 = .ok (.aload_n 0, 1) := by decide +kernel
theorem dX6_tallyFitting_1 : decode cX6_tallyFitting 1 = .ok (.getfield 51, 3) := by decide +kernel
theorem dX6_tallyFitting_4 : decode cX6_tallyFitting 4 = .ok (.iconst 0, 1) := by decide +kernel
theorem dX6_tallyFitting_5 : decode cX6_tallyFitting 5 = .ok (.invokestatic 287, 3) := by decide +kernel
theorem dX6_tallyFitting_8 : decode cX6_tallyFitting 8 = .ok (.aload_n 0, 1) := by decide +kernel
theorem dX6_tallyFitting_9 : decode cX6_tallyFitting 9 = .ok (.getfield 19, 3) := by decide +kernel
theorem dX6_tallyFitting_12 : decode cX6_tallyFitting 12 = .ok (.invokevirtual 155, 3) := by decide +kernel
theorem dX6_tallyFitting_15 : decode cX6_tallyFitting 15 = .ok (.istore_n 1, 1) := by decide +kernel
theorem dX6_tallyFitting_16 : decode cX6_tallyFitting 16 = .ok (.aload_n 0, 1) := by decide +kernel
theorem dX6_tallyFitting_17 : decode cX6_tallyFitting 17 = .ok (.getfield 19, 3) := by decide +kernel
theorem dX6_tallyFitting_20 : decode cX6_tallyFitting 20 = .ok (.getfield 101, 3) := by decide +kernel
theorem dX6_tallyFitting_23 : decode cX6_tallyFitting 23 = .ok (.bipush 9, 2) := by decide +kernel
theorem dX6_tallyFitting_25 : decode cX6_tallyFitting 25 = .ok (.imul, 1) := by decide +kernel
theorem dX6_tallyFitting_26 : decode cX6_tallyFitting 26 = .ok (.istore_n 2, 1) := by decide +kernel
theorem dX6_tallyFitting_27 : decode cX6_tallyFitting 27 = .ok (.iconst 0, 1) := by decide +kernel
theorem dX6_tallyFitting_28 : decode cX6_tallyFitting 28 = .ok (.istore_n 3, 1) := by decide +kernel
theorem dX6_tallyFitting_29 : decode cX6_tallyFitting 29 = .ok (.iconst 0, 1) := by decide +kernel
theorem dX6_tallyFitting_30 : decode cX6_tallyFitting 30 = .ok (.istore 4, 2) := by decide +kernel
theorem dX6_tallyFitting_32 : decode cX6_tallyFitting 32 = .ok (.iload 4, 2) := by decide +kernel
theorem dX6_tallyFitting_34 : decode cX6_tallyFitting 34 = .ok (.iload_n 1, 1) := by decide +kernel
theorem dX6_tallyFitting_35 : decode cX6_tallyFitting 35 = .ok (.if_icmp .ge 71, 3) := by decide +kernel
theorem dX6_tallyFitting_38 : decode cX6_tallyFitting 38 = .ok (.aload_n 0, 1) := by decide +kernel
theorem dX6_tallyFitting_39 : decode cX6_tallyFitting 39 = .ok (.iload 4, 2) := by decide +kernel
theorem dX6_tallyFitting_41 : decode cX6_tallyFitting 41 = .ok (.bipush 9, 2) := by decide +kernel
theorem dX6_tallyFitting_43 : decode cX6_tallyFitting 43 = .ok (.invokevirtual 205, 3) := by decide +kernel
theorem dX6_tallyFitting_46 : decode cX6_tallyFitting 46 = .ok (.aload_n 0, 1) := by decide +kernel
theorem dX6_tallyFitting_47 : decode cX6_tallyFitting 47 = .ok (.getfield 29, 3) := by decide +kernel
theorem dX6_tallyFitting_50 : decode cX6_tallyFitting 50 = .ok (.aload_n 0, 1) := by decide +kernel
theorem dX6_tallyFitting_51 : decode cX6_tallyFitting 51 = .ok (.getfield 47, 3) := by decide +kernel
theorem dX6_tallyFitting_54 : decode cX6_tallyFitting 54 = .ok (.invokevirtual 209, 3) := by decide +kernel
theorem dX6_tallyFitting_57 : decode cX6_tallyFitting 57 = .ok (.ifCond .eq 43, 3) := by decide +kernel
theorem dX6_tallyFitting_60 : decode cX6_tallyFitting 60 = .ok (.iinc 3 1, 3) := by decide +kernel
theorem dX6_tallyFitting_63 : decode cX6_tallyFitting 63 = .ok (.iconst 0, 1) := by decide +kernel
theorem dX6_tallyFitting_64 : decode cX6_tallyFitting 64 = .ok (.istore 5, 2) := by decide +kernel
theorem dX6_tallyFitting_66 : decode cX6_tallyFitting 66 = .ok (.iload 5, 2) := by decide +kernel
theorem dX6_tallyFitting_68 : decode cX6_tallyFitting 68 = .ok (.iload_n 2, 1) := by decide +kernel
theorem dX6_tallyFitting_69 : decode cX6_tallyFitting 69 = .ok (.if_icmp .ge 31, 3) := by decide +kernel
theorem dX6_tallyFitting_72 : decode cX6_tallyFitting 72 = .ok (.aload_n 0, 1) := by decide +kernel
theorem dX6_tallyFitting_73 : decode cX6_tallyFitting 73 = .ok (.getfield 51, 3) := by decide +kernel
theorem dX6_tallyFitting_76 : decode cX6_tallyFitting 76 = .ok (.iload 5, 2) := by decide +kernel
theorem dX6_tallyFitting_78 : decode cX6_tallyFitting 78 = .ok (.bipush 100, 2) := by decide +kernel
theorem dX6_tallyFitting_80 : decode cX6_tallyFitting 80 = .ok (.imul, 1) := by decide +kernel
theorem dX6_tallyFitting_81 : decode cX6_tallyFitting 81 = .ok (.aload_n 0, 1) := by decide +kernel
theorem dX6_tallyFitting_82 : decode cX6_tallyFitting 82 = .ok (.getfield 47, 3) := by decide +kernel
theorem dX6_tallyFitting_85 : decode cX6_tallyFitting 85 = .ok (.iload 5, 2) := by decide +kernel
theorem dX6_tallyFitting_87 : decode cX6_tallyFitting 87 = .ok (.iaload, 1) := by decide +kernel
theorem dX6_tallyFitting_88 : decode cX6_tallyFitting 88 = .ok (.iadd, 1) := by decide +kernel
theorem dX6_tallyFitting_89 : decode cX6_tallyFitting 89 = .ok (.dup2, 1) := by decide +kernel
theorem dX6_tallyFitting_90 : decode cX6_tallyFitting 90 = .ok (.iaload, 1) := by decide +kernel
theorem dX6_tallyFitting_91 : decode cX6_tallyFitting 91 = .ok (.iconst 1, 1) := by decide +kernel
theorem dX6_tallyFitting_92 : decode cX6_tallyFitting 92 = .ok (.iadd, 1) := by decide +kernel
theorem dX6_tallyFitting_93 : decode cX6_tallyFitting 93 = .ok (.iastore, 1) := by decide +kernel
theorem dX6_tallyFitting_94 : decode cX6_tallyFitting 94 = .ok (.iinc 5 1, 3) := by decide +kernel
theorem dX6_tallyFitting_97 : decode cX6_tallyFitting 97 = .ok (.goto (-31), 3) := by decide +kernel
theorem dX6_tallyFitting_100 : decode cX6_tallyFitting 100 = .ok (.iinc 4 1, 3) := by decide +kernel
theorem dX6_tallyFitting_103 : decode cX6_tallyFitting 103 = .ok (.goto (-71), 3) := by decide +kernel
theorem dX6_tallyFitting_106 : decode cX6_tallyFitting 106 = .ok (.iload_n 3, 1) := by decide +kernel
theorem dX6_tallyFitting_107 : decode cX6_tallyFitting 107 = .ok (.ireturn, 1) := by decide +kernel
theorem dX6_mostInRow_0 : decode cX6_mostInRow 0 = .ok (.iload_n 1, 1) := by decide +kernel
theorem dX6_mostInRow_1 : decode cX6_mostInRow 1 = .ok (.bipush 100, 2) := by decide +kernel
theorem dX6_mostInRow_3 : decode cX6_mostInRow 3 = .ok (.imul, 1) := by decide +kernel
theorem dX6_mostInRow_4 : decode cX6_mostInRow 4 = .ok (.istore_n 2, 1) := by decide +kernel
theorem dX6_mostInRow_5 : decode cX6_mostInRow 5 = .ok (.iconst 0, 1) := by decide +kernel
theorem dX6_mostInRow_6 : decode cX6_mostInRow 6 = .ok (.istore_n 3, 1) := by decide +kernel
theorem dX6_mostInRow_7 : decode cX6_mostInRow 7 = .ok (.iconst 0, 1) := by decide +kernel
theorem dX6_mostInRow_8 : decode cX6_mostInRow 8 = .ok (.istore 4, 2) := by decide +kernel
theorem dX6_mostInRow_10 : decode cX6_mostInRow 10 = .ok (.iload 4, 2) := by decide +kernel
theorem dX6_mostInRow_12 : decode cX6_mostInRow 12 = .ok (.bipush 99, 2) := by decide +kernel
theorem dX6_mostInRow_14 : decode cX6_mostInRow 14 = .ok (.if_icmp .gt 23, 3) := by decide +kernel
theorem dX6_mostInRow_17 : decode cX6_mostInRow 17 = .ok (.iload_n 3, 1) := by decide +kernel
theorem dX6_mostInRow_18 : decode cX6_mostInRow 18 = .ok (.aload_n 0, 1) := by decide +kernel
theorem dX6_mostInRow_19 : decode cX6_mostInRow 19 = .ok (.getfield 51, 3) := by decide +kernel
theorem dX6_mostInRow_22 : decode cX6_mostInRow 22 = .ok (.iload_n 2, 1) := by decide +kernel
theorem dX6_mostInRow_23 : decode cX6_mostInRow 23 = .ok (.iload 4, 2) := by decide +kernel
theorem dX6_mostInRow_25 : decode cX6_mostInRow 25 = .ok (.iadd, 1) := by decide +kernel
theorem dX6_mostInRow_26 : decode cX6_mostInRow 26 = .ok (.iaload, 1) := by decide +kernel
theorem dX6_mostInRow_27 : decode cX6_mostInRow 27 = .ok (.invokestatic 293, 3) := by decide +kernel
theorem dX6_mostInRow_30 : decode cX6_mostInRow 30 = .ok (.istore_n 3, 1) := by decide +kernel
theorem dX6_mostInRow_31 : decode cX6_mostInRow 31 = .ok (.iinc 4 1, 3) := by decide +kernel
theorem dX6_mostInRow_34 : decode cX6_mostInRow 34 = .ok (.goto (-24), 3) := by decide +kernel
theorem dX6_mostInRow_37 : decode cX6_mostInRow 37 = .ok (.iload_n 3, 1) := by decide +kernel
theorem dX6_mostInRow_38 : decode cX6_mostInRow 38 = .ok (.ireturn, 1) := by decide +kernel
theorem dX6_imagesKept_0 : decode cX6_imagesKept 0 = .ok (.iconst 0, 1) := by decide +kernel
theorem dX6_imagesKept_1 : decode cX6_imagesKept 1 = .ok (.istore_n 1, 1) := by decide +kernel
theorem dX6_imagesKept_2 : decode cX6_imagesKept 2 = .ok (.iconst 0, 1) := by decide +kernel
theorem dX6_imagesKept_3 : decode cX6_imagesKept 3 = .ok (.istore_n 2, 1) := by decide +kernel
theorem dX6_imagesKept_4 : decode cX6_imagesKept 4 = .ok (.iload_n 2, 1) := by decide +kernel
theorem dX6_imagesKept_5 : decode cX6_imagesKept 5 = .ok (.iconst 2, 1) := by decide +kernel
theorem dX6_imagesKept_6 : decode cX6_imagesKept 6 = .ok (.if_icmp .ge 24, 3) := by decide +kernel
theorem dX6_imagesKept_9 : decode cX6_imagesKept 9 = .ok (.aload_n 0, 1) := by decide +kernel
theorem dX6_imagesKept_10 : decode cX6_imagesKept 10 = .ok (.getfield 35, 3) := by decide +kernel
theorem dX6_imagesKept_13 : decode cX6_imagesKept 13 = .ok (.iload_n 2, 1) := by decide +kernel
theorem dX6_imagesKept_14 : decode cX6_imagesKept 14 = .ok (.aaload, 1) := by decide +kernel
theorem dX6_imagesKept_15 : decode cX6_imagesKept 15 = .ok (.getfield 94, 3) := by decide +kernel
theorem dX6_imagesKept_18 : decode cX6_imagesKept 18 = .ok (.ifCond .eq 6, 3) := by decide +kernel
theorem dX6_imagesKept_21 : decode cX6_imagesKept 21 = .ok (.iinc 1 1, 3) := by decide +kernel
theorem dX6_imagesKept_24 : decode cX6_imagesKept 24 = .ok (.iinc 2 1, 3) := by decide +kernel
theorem dX6_imagesKept_27 : decode cX6_imagesKept 27 = .ok (.goto (-23), 3) := by decide +kernel
theorem dX6_imagesKept_30 : decode cX6_imagesKept 30 = .ok (.iload_n 1, 1) := by decide +kernel
theorem dX6_imagesKept_31 : decode cX6_imagesKept 31 = .ok (.ireturn, 1) := by decide +kernel
end
section
theorem dX7_init_0 : decode cX7_init 0 = .ok (.aload_n 0, 1) := by decide +kernel
theorem dX7_init_1 : decode cX7_init 1 = .ok (.invokespecial 1, 3) := by decide +kernel
theorem dX7_init_4 : decode cX7_init 4 = .ok (.aload_n 0, 1) := by decide +kernel
theorem dX7_init_5 : decode cX7_init 5 = .ok (.bipush 123, 2) := by decide +kernel
theorem dX7_init_7 : decode cX7_init 7 = .ok (.newarray .int, 2) := by decide +kernel
theorem dX7_init_9 : decode cX7_init 9 = .ok (.putfield 7, 3) := by decide +kernel
theorem dX7_init_12 : decode cX7_init 12 = .ok (.aload_n 0, 1) := by decide +kernel
theorem dX7_init_13 : decode cX7_init 13 = .ok (.bipush 41, 2) := by decide +kernel
theorem dX7_init_15 : decode cX7_init 15 = .ok (.newarray .int, 2) := by decide +kernel
theorem dX7_init_17 : decode cX7_init 17 = .ok (.putfield 13, 3) := by decide +kernel
theorem dX7_init_20 : decode cX7_init 20 = .ok (.aload_n 0, 1) := by decide +kernel
theorem dX7_init_21 : decode cX7_init 21 = .ok (.iconst 2, 1) := by decide +kernel
theorem dX7_init_22 : decode cX7_init 22 = .ok (.newarray .boolean, 2) := by decide +kernel
theorem dX7_init_24 : decode cX7_init 24 = .ok (.putfield 16, 3) := by decide +kernel
theorem dX7_init_27 : decode cX7_init 27 = .ok (.aload_n 0, 1) := by decide +kernel
theorem dX7_init_28 : decode cX7_init 28 = .ok (.bipush 41, 2) := by decide +kernel
theorem dX7_init_30 : decode cX7_init 30 = .ok (.newarray .int, 2) := by decide +kernel
theorem dX7_init_32 : decode cX7_init 32 = .ok (.putfield 20, 3) := by decide +kernel
theorem dX7_init_35 : decode cX7_init 35 = .ok (.aload_n 0, 1) := by decide +kernel
theorem dX7_init_36 : decode cX7_init 36 = .ok (.bipush 8, 2) := by decide +kernel
theorem dX7_init_38 : decode cX7_init 38 = .ok (.newarray .int, 2) := by decide +kernel
theorem dX7_init_40 : decode cX7_init 40 = .ok (.putfield 23, 3) := by decide +kernel
theorem dX7_init_43 : decode cX7_init 43 = .ok (.aload_n 0, 1) := by decide +kernel
theorem dX7_init_44 : decode cX7_init 44 = .ok (.sipush 160, 3) := by decide +kernel
theorem dX7_init_47 : decode cX7_init 47 = .ok (.newarray .int, 2) := by decide +kernel
theorem dX7_init_49 : decode cX7_init 49 = .ok (.putfield 26, 3) := by decide +kernel
theorem dX7_init_52 : decode cX7_init 52 = .ok (.aload_n 0, 1) := by decide +kernel
theorem dX7_init_53 : decode cX7_init 53 = .ok (.bipush 50, 2) := by decide +kernel
theorem dX7_init_55 : decode cX7_init 55 = .ok (.newarray .int, 2) := by decide +kernel
theorem dX7_init_57 : decode cX7_init 57 = .ok (.putfield 29, 3) := by decide +kernel
theorem dX7_init_60 : decode cX7_init 60 = .ok (.aload_n 0, 1) := by decide +kernel
theorem dX7_init_61 : decode cX7_init 61 = .ok (.sipush 5000, 3) := by decide +kernel
theorem dX7_init_64 : decode cX7_init 64 = .ok (.newarray .int, 2) := by decide +kernel
theorem dX7_init_66 : decode cX7_init 66 = .ok (.putfield 32, 3) := by decide +kernel
theorem dX7_init_69 : decode cX7_init 69 = .ok (.aload_n 0, 1) := by decide +kernel
theorem dX7_init_70 : decode cX7_init 70 = .ok (.iconst 4, 1) := by decide +kernel
theorem dX7_init_71 : decode cX7_init 71 = .ok (.newarray .int, 2) := by decide +kernel
theorem dX7_init_73 : decode cX7_init 73 = .ok (.putfield 35, 3) := by decide +kernel
theorem dX7_init_76 : decode cX7_init 76 = .ok (.aload_n 0, 1) := by decide +kernel
theorem dX7_init_77 : decode cX7_init 77 = .ok (.iconst 4, 1) := by decide +kernel
theorem dX7_init_78 : decode cX7_init 78 = .ok (.newarray .int, 2) := by decide +kernel
theorem dX7_init_80 : decode cX7_init 80 = .ok (.putfield 38, 3) := by decide +kernel
theorem dX7_init_83 : decode cX7_init 83 = .ok (.aload_n 0, 1) := by decide +kernel
theorem dX7_init_84 : decode cX7_init 84 = .ok (.sipush 160, 3) := by decide +kernel
theorem dX7_init_87 : decode cX7_init 87 = .ok (.newarray .int, 2) := by decide +kernel
theorem dX7_init_89 : decode cX7_init 89 = .ok (.putfield 41, 3) := by decide +kernel
theorem dX7_init_92 : decode cX7_init 92 = .ok (.aload_n 0, 1) := by decide +kernel
theorem dX7_init_93 : decode cX7_init 93 = .ok (.bipush 41, 2) := by decide +kernel
theorem dX7_init_95 : decode cX7_init 95 = .ok (.newarray .int, 2) := by decide +kernel
theorem dX7_init_97 : decode cX7_init 97 = .ok (.putfield 44, 3) := by decide +kernel
theorem dX7_init_100 : decode cX7_init 100 = .ok (.iconst 0, 1) := by decide +kernel
theorem dX7_init_101 : decode cX7_init 101 = .ok (.istore_n 1, 1) := by decide +kernel
theorem dX7_init_102 : decode cX7_init 102 = .ok (.iload_n 1, 1) := by decide +kernel
theorem dX7_init_103 : decode cX7_init 103 = .ok (.iconst 4, 1) := by decide +kernel
theorem dX7_init_104 : decode cX7_init 104 = .ok (.if_icmp .ge 17, 3) := by decide +kernel
theorem dX7_init_107 : decode cX7_init 107 = .ok (.aload_n 0, 1) := by decide +kernel
theorem dX7_init_108 : decode cX7_init 108 = .ok (.getfield 35, 3) := by decide +kernel
theorem dX7_init_111 : decode cX7_init 111 = .ok (.iload_n 1, 1) := by decide +kernel
theorem dX7_init_112 : decode cX7_init 112 = .ok (.bipush (-4), 2) := by decide +kernel
theorem dX7_init_114 : decode cX7_init 114 = .ok (.iastore, 1) := by decide +kernel
theorem dX7_init_115 : decode cX7_init 115 = .ok (.iinc 1 1, 3) := by decide +kernel
theorem dX7_init_118 : decode cX7_init 118 = .ok (.goto (-16), 3) := by decide +kernel
theorem dX7_init_121 : decode cX7_init 121 = .ok (.aload_n 0, 1) := by decide +kernel
theorem dX7_init_122 : decode cX7_init 122 = .ok (.invokevirtual 47, 3) := by decide +kernel
theorem dX7_init_125 : decode cX7_init 125 = .ok (.aload_n 0, 1) := by decide +kernel
theorem dX7_init_126 : decode cX7_init 126 = .ok (.invokevirtual 50, 3) := by decide +kernel
theorem dX7_init_129 : decode cX7_init 129 = .ok (.return_, 1) := by decide +kernel
theorem dX7_in_0 : decode cX7_in 0 = .ok (.lload_n 0, 1) := by decide +kernel
theorem dX7_in_1 : decode cX7_in 1 = .ok (.lload_n 2, 1) := by decide +kernel
theorem dX7_in_2 : decode cX7_in 2 = .ok (.lcmp, 1) := by decide +kernel
theorem dX7_in_3 : decode cX7_in 3 = .ok (.ifCond .lt 14, 3) := by decide +kernel
theorem dX7_in_6 : decode cX7_in 6 = .ok (.lload_n 0, 1) := by decide +kernel
theorem dX7_in_7 : decode cX7_in 7 = .ok (.lload 4, 2) := by decide +kernel
theorem dX7_in_9 : decode cX7_in 9 = .ok (.lcmp, 1) := by decide +kernel
theorem dX7_in_10 : decode cX7_in 10 = .ok (.ifCond .gt 7, 3) := by decide +kernel
theorem dX7_in_13 : decode cX7_in 13 = .ok (.iconst 1, 1) := by decide +kernel
theorem dX7_in_14 : decode cX7_in 14 = .ok (.goto 4, 3) := by decide +kernel
theorem dX7_in_17 : decode cX7_in 17 = .ok (.iconst 0, 1) := by decide +kernel
theorem dX7_in_18 : decode cX7_in 18 = .ok (.ireturn, 1) := by decide +kernel
theorem dX7_flag_0 : decode cX7_flag 0 = .ok (.iload_n 0, 1) := by decide +kernel
theorem dX7_flag_1 : decode cX7_flag 1 = .ok (.ifCond .eq 7, 3) := by decide +kernel
theorem dX7_flag_4 : decode cX7_flag 4 = .ok (.iconst 1, 1) := by decide +kernel
theorem dX7_flag_5 : decode cX7_flag 5 = .ok (.goto 4, 3) := by decide +kernel
theorem dX7_flag_8 : decode cX7_flag 8 = .ok (.iconst 0, 1) := by decide +kernel
theorem dX7_flag_9 : decode cX7_flag 9 = .ok (.ireturn, 1) := by decide +kernel
theorem dX7_firstDraft_0 : decode cX7_firstDraft 0 = .ok (.iconst 0, 1) := by decide +kernel
theorem dX7_firstDraft_1 : decode cX7_firstDraft 1 = .ok (.istore_n 1, 1) := by decide +kernel
theorem dX7_firstDraft_2 : decode cX7_firstDraft 2 = .ok (.iload_n 1, 1) := by decide +kernel
theorem dX7_firstDraft_3 : decode cX7_firstDraft 3 = .ok (.bipush 41, 2) := by decide +kernel
theorem dX7_firstDraft_5 : decode cX7_firstDraft 5 = .ok (.if_icmp .ge 16, 3) := by decide +kernel
theorem dX7_firstDraft_8 : decode cX7_firstDraft 8 = .ok (.aload_n 0, 1) := by decide +kernel
theorem dX7_firstDraft_9 : decode cX7_firstDraft 9 = .ok (.getfield 20, 3) := by decide +kernel
theorem dX7_firstDraft_12 : decode cX7_firstDraft 12 = .ok (.iload_n 1, 1) := by decide +kernel
theorem dX7_firstDraft_13 : decode cX7_firstDraft 13 = .ok (.iconst 0, 1) := by decide +kernel
theorem dX7_firstDraft_14 : decode cX7_firstDraft 14 = .ok (.iastore, 1) := by decide +kernel
theorem dX7_firstDraft_15 : decode cX7_firstDraft 15 = .ok (.iinc 1 1, 3) := by decide +kernel
theorem dX7_firstDraft_18 : decode cX7_firstDraft 18 = .ok (.goto (-16), 3) := by decide +kernel
theorem dX7_firstDraft_21 : decode cX7_firstDraft 21 = .ok (.aload_n 0, 1) := by decide +kernel
theorem dX7_firstDraft_22 : decode cX7_firstDraft 22 = .ok (.getfield 20, 3) := by decide +kernel
theorem dX7_firstDraft_25 : decode cX7_firstDraft 25 = .ok (.bipush 16, 2) := by decide +kernel
theorem dX7_firstDraft_27 : decode cX7_firstDraft 27 = .ok (.iconst 3, 1) := by decide +kernel
theorem dX7_firstDraft_28 : decode cX7_firstDraft 28 = .ok (.iastore, 1) := by decide +kernel
theorem dX7_firstDraft_29 : decode cX7_firstDraft 29 = .ok (.aload_n 0, 1) := by decide +kernel
theorem dX7_firstDraft_30 : decode cX7_firstDraft 30 = .ok (.iconst 0, 1) := by decide +kernel
theorem dX7_firstDraft_31 : decode cX7_firstDraft 31 = .ok (.putfield 53, 3) := by decide +kernel
theorem dX7_firstDraft_34 : decode cX7_firstDraft 34 = .ok (.aload_n 0, 1) := by decide +kernel
theorem dX7_firstDraft_35 : decode cX7_firstDraft 35 = .ok (.iconst 0, 1) := by decide +kernel
theorem dX7_firstDraft_36 : decode cX7_firstDraft 36 = .ok (.putfield 57, 3) := by decide +kernel
theorem dX7_firstDraft_39 : decode cX7_firstDraft 39 = .ok (.aload_n 0, 1) := by decide +kernel
theorem dX7_firstDraft_40 : decode cX7_firstDraft 40 = .ok (.iconst 0, 1) := by decide +kernel
theorem dX7_firstDraft_41 : decode cX7_firstDraft 41 = .ok (.putfield 61, 3) := by decide +kernel
theorem dX7_firstDraft_44 : decode cX7_firstDraft 44 = .ok (.aload_n 0, 1) := by decide +kernel
theorem dX7_firstDraft_45 : decode cX7_firstDraft 45 = .ok (.bipush (-4), 2) := by decide +kernel
theorem dX7_firstDraft_47 : decode cX7_firstDraft 47 = .ok (.putfield 64, 3) := by decide +kernel
theorem dX7_firstDraft_50 : decode cX7_firstDraft 50 = .ok (.return_, 1) := by decide +kernel
theorem dX7_keepDraft_0 : decode cX7_keepDraft 0 = .ok (.iconst 0, 1) := by decide +kernel
theorem dX7_keepDraft_1 : decode cX7_keepDraft 1 = .ok (.istore_n 1, 1) := by decide +kernel
theorem dX7_keepDraft_2 : decode cX7_keepDraft 2 = .ok (.iload_n 1, 1) := by decide +kernel
theorem dX7_keepDraft_3 : decode cX7_keepDraft 3 = .ok (.bipush 41, 2) := by decide +kernel
theorem dX7_keepDraft_5 : decode cX7_keepDraft 5 = .ok (.if_icmp .ge 21, 3) := by decide +kernel
theorem dX7_keepDraft_8 : decode cX7_keepDraft 8 = .ok (.aload_n 0, 1) := by decide +kernel
theorem dX7_keepDraft_9 : decode cX7_keepDraft 9 = .ok (.getfield 7, 3) := by decide +kernel
theorem dX7_keepDraft_12 : decode cX7_keepDraft 12 = .ok (.iload_n 1, 1) := by decide +kernel
theorem dX7_keepDraft_13 : decode cX7_keepDraft 13 = .ok (.aload_n 0, 1) := by decide +kernel
theorem dX7_keepDraft_14 : decode cX7_keepDraft 14 = .ok (.getfield 20, 3) := by decide +kernel
theorem dX7_keepDraft_17 : decode cX7_keepDraft 17 = .ok (.iload_n 1, 1) := by decide +kernel
theorem dX7_keepDraft_18 : decode cX7_keepDraft 18 = .ok (.iaload, 1) := by decide +kernel
theorem dX7_keepDraft_19 : decode cX7_keepDraft 19 = .ok (.iastore, 1) := by decide +kernel
theorem dX7_keepDraft_20 : decode cX7_keepDraft 20 = .ok (.iinc 1 1, 3) := by decide +kernel
theorem dX7_keepDraft_23 : decode cX7_keepDraft 23 = .ok (.goto (-21), 3) := by decide +kernel
theorem dX7_keepDraft_26 : decode cX7_keepDraft 26 = .ok (.aload_n 0, 1) := by decide +kernel
theorem dX7_keepDraft_27 : decode cX7_keepDraft 27 = .ok (.aload_n 0, 1) := by decide +kernel
theorem dX7_keepDraft_28 : decode cX7_keepDraft 28 = .ok (.getfield 53, 3) := by decide +kernel
theorem dX7_keepDraft_31 : decode cX7_keepDraft 31 = .ok (.putfield 67, 3) := by decide +kernel
theorem dX7_keepDraft_34 : decode cX7_keepDraft 34 = .ok (.aload_n 0, 1) := by decide +kernel
theorem dX7_keepDraft_35 : decode cX7_keepDraft 35 = .ok (.getfield 16, 3) := by decide +kernel
theorem dX7_keepDraft_38 : decode cX7_keepDraft 38 = .ok (.iconst 0, 1) := by decide +kernel
theorem dX7_keepDraft_39 : decode cX7_keepDraft 39 = .ok (.iconst 0, 1) := by decide +kernel
theorem dX7_keepDraft_40 : decode cX7_keepDraft 40 = .ok (.bastore, 1) := by decide +kernel
theorem dX7_keepDraft_41 : decode cX7_keepDraft 41 = .ok (.aload_n 0, 1) := by decide +kernel
theorem dX7_keepDraft_42 : decode cX7_keepDraft 42 = .ok (.getfield 16, 3) := by decide +kernel
theorem dX7_keepDraft_45 : decode cX7_keepDraft 45 = .ok (.iconst 1, 1) := by decide +kernel
theorem dX7_keepDraft_46 : decode cX7_keepDraft 46 = .ok (.iconst 0, 1) := by decide +kernel
theorem dX7_keepDraft_47 : decode cX7_keepDraft 47 = .ok (.bastore, 1) := by decide +kernel
theorem dX7_keepDraft_48 : decode cX7_keepDraft 48 = .ok (.return_, 1) := by decide +kernel
theorem dX7_feed_0 : decode cX7_feed 0 = .ok (.iload_n 1, 1) := by decide +kernel
theorem dX7_feed_1 : decode cX7_feed 1 = .ok (.i2l, 1) := by decide +kernel
theorem dX7_feed_2 : decode cX7_feed 2 = .ok (.lconst 0, 1) := by decide +kernel
theorem dX7_feed_3 : decode cX7_feed 3 = .ok (.ldc2_w 70, 3) := by decide +kernel
theorem dX7_feed_6 : decode cX7_feed 6 = .ok (.invokestatic 72, 3) := by decide +kernel
theorem dX7_feed_9 : decode cX7_feed 9 = .ok (.ifCond .ne 5, 3) := by decide +kernel
theorem dX7_feed_12 : decode cX7_feed 12 = .ok (.iconst (-1), 1) := by decide +kernel
theorem dX7_feed_13 : decode cX7_feed 13 = .ok (.ireturn, 1) := by decide +kernel
theorem dX7_feed_14 : decode cX7_feed 14 = .ok (.aload_n 0, 1) := by decide +kernel
theorem dX7_feed_15 : decode cX7_feed 15 = .ok (.getfield 76, 3) := by decide +kernel
theorem dX7_feed_18 : decode cX7_feed 18 = .ok (.sipush 160, 3) := by decide +kernel
theorem dX7_feed_21 : decode cX7_feed 21 = .ok (.if_icmp .ne 6, 3) := by decide +kernel
theorem dX7_feed_24 : decode cX7_feed 24 = .ok (.bipush (-3), 2) := by decide +kernel
theorem dX7_feed_26 : decode cX7_feed 26 = .ok (.ireturn, 1) := by decide +kernel
theorem dX7_feed_27 : decode cX7_feed 27 = .ok (.aload_n 0, 1) := by decide +kernel
theorem dX7_feed_28 : decode cX7_feed 28 = .ok (.getfield 26, 3) := by decide +kernel
theorem dX7_feed_31 : decode cX7_feed 31 = .ok (.aload_n 0, 1) := by decide +kernel
theorem dX7_feed_32 : decode cX7_feed 32 = .ok (.getfield 76, 3) := by decide +kernel
theorem dX7_feed_35 : decode cX7_feed 35 = .ok (.iload_n 1, 1) := by decide +kernel
theorem dX7_feed_36 : decode cX7_feed 36 = .ok (.iastore, 1) := by decide +kernel
theorem dX7_feed_37 : decode cX7_feed 37 = .ok (.aload_n 0, 1) := by decide +kernel
theorem dX7_feed_38 : decode cX7_feed 38 = .ok (.dup, 1) := by decide +kernel
theorem dX7_feed_39 : decode cX7_feed 39 = .ok (.getfield 76, 3) := by decide +kernel
theorem dX7_feed_42 : decode cX7_feed 42 = .ok (.iconst 1, 1) := by decide +kernel
theorem dX7_feed_43 : decode cX7_feed 43 = .ok (.iadd, 1) := by decide +kernel
theorem dX7_feed_44 : decode cX7_feed 44 = .ok (.putfield 76, 3) := by decide +kernel
theorem dX7_feed_47 : decode cX7_feed 47 = .ok (.aload_n 0, 1) := by decide +kernel
theorem dX7_feed_48 : decode cX7_feed 48 = .ok (.getfield 76, 3) := by decide +kernel
theorem dX7_feed_51 : decode cX7_feed 51 = .ok (.ireturn, 1) := by decide +kernel
theorem dX7_end_0 : decode cX7_end 0 = .ok (.iload_n 1, 1) := by decide +kernel
theorem dX7_end_1 : decode cX7_end 1 = .ok (.i2l, 1) := by decide +kernel
theorem dX7_end_2 : decode cX7_end 2 = .ok (.lconst 0, 1) := by decide +kernel
theorem dX7_end_3 : decode cX7_end 3 = .ok (.aload_n 0, 1) := by decide +kernel
theorem dX7_end_4 : decode cX7_end 4 = .ok (.getfield 76, 3) := by decide +kernel
theorem dX7_end_7 : decode cX7_end 7 = .ok (.i2l, 1) := by decide +kernel
theorem dX7_end_8 : decode cX7_end 8 = .ok (.invokestatic 72, 3) := by decide +kernel
theorem dX7_end_11 : decode cX7_end 11 = .ok (.ifCond .ne 5, 3) := by decide +kernel
theorem dX7_end_14 : decode cX7_end 14 = .ok (.iconst (-1), 1) := by decide +kernel
theorem dX7_end_15 : decode cX7_end 15 = .ok (.ireturn, 1) := by decide +kernel
theorem dX7_end_16 : decode cX7_end 16 = .ok (.aload_n 0, 1) := by decide +kernel
theorem dX7_end_17 : decode cX7_end 17 = .ok (.getfield 76, 3) := by decide +kernel
theorem dX7_end_20 : decode cX7_end 20 = .ok (.istore_n 2, 1) := by decide +kernel
theorem dX7_end_21 : decode cX7_end 21 = .ok (.aload_n 0, 1) := by decide +kernel
theorem dX7_end_22 : decode cX7_end 22 = .ok (.iload_n 1, 1) := by decide +kernel
theorem dX7_end_23 : decode cX7_end 23 = .ok (.putfield 76, 3) := by decide +kernel
theorem dX7_end_26 : decode cX7_end 26 = .ok (.iload_n 2, 1) := by decide +kernel
theorem dX7_end_27 : decode cX7_end 27 = .ok (.ireturn, 1) := by decide +kernel
theorem dX7_needs_0 : decode cX7_needs 0 = .ok (.iload_n 1, 1) := by decide +kernel
theorem dX7_needs_1 : decode cX7_needs 1 = .ok (.ifCond .ne 23, 3) := by decide +kernel
theorem dX7_needs_4 : decode cX7_needs 4 = .ok (.aload_n 0, 1) := by decide +kernel
theorem dX7_needs_5 : decode cX7_needs 5 = .ok (.getfield 79, 3) := by decide +kernel
theorem dX7_needs_8 : decode cX7_needs 8 = .ok (.ifCond .ne 16, 3) := by decide +kernel
theorem dX7_needs_11 : decode cX7_needs 11 = .ok (.aload_n 0, 1) := by decide +kernel
theorem dX7_needs_12 : decode cX7_needs 12 = .ok (.iload_n 2, 1) := by decide +kernel
theorem dX7_needs_13 : decode cX7_needs 13 = .ok (.putfield 79, 3) := by decide +kernel
theorem dX7_needs_16 : decode cX7_needs 16 = .ok (.aload_n 0, 1) := by decide +kernel
theorem dX7_needs_17 : decode cX7_needs 17 = .ok (.aload_n 0, 1) := by decide +kernel
theorem dX7_needs_18 : decode cX7_needs 18 = .ok (.getfield 82, 3) := by decide +kernel
theorem dX7_needs_21 : decode cX7_needs 21 = .ok (.putfield 85, 3) := by decide +kernel
theorem dX7_needs_24 : decode cX7_needs 24 = .ok (.return_, 1) := by decide +kernel
theorem dX7_byteAt_0 : decode cX7_byteAt 0 = .ok (.iload_n 1, 1) := by decide +kernel
theorem dX7_byteAt_1 : decode cX7_byteAt 1 = .ok (.aload_n 0, 1) := by decide +kernel
theorem dX7_byteAt_2 : decode cX7_byteAt 2 = .ok (.getfield 76, 3) := by decide +kernel
theorem dX7_byteAt_5 : decode cX7_byteAt 5 = .ok (.if_icmp .ge 12, 3) := by decide +kernel
theorem dX7_byteAt_8 : decode cX7_byteAt 8 = .ok (.aload_n 0, 1) := by decide +kernel
theorem dX7_byteAt_9 : decode cX7_byteAt 9 = .ok (.getfield 26, 3) := by decide +kernel
theorem dX7_byteAt_12 : decode cX7_byteAt 12 = .ok (.iload_n 1, 1) := by decide +kernel
theorem dX7_byteAt_13 : decode cX7_byteAt 13 = .ok (.iaload, 1) := by decide +kernel
theorem dX7_byteAt_14 : decode cX7_byteAt 14 = .ok (.goto 4, 3) := by decide +kernel
theorem dX7_byteAt_17 : decode cX7_byteAt 17 = .ok (.iconst (-1), 1) := by decide +kernel
theorem dX7_byteAt_18 : decode cX7_byteAt 18 = .ok (.ireturn, 1) := by decide +kernel
theorem dX7_is_0 : decode cX7_is 0 = .ok (.aload_n 0, 1) := by decide +kernel
theorem dX7_is_1 : decode cX7_is 1 = .ok (.getfield 88, 3) := by decide +kernel
theorem dX7_is_4 : decode cX7_is 4 = .ok (.aload_n 0, 1) := by decide +kernel
theorem dX7_is_5 : decode cX7_is 5 = .ok (.getfield 82, 3) := by decide +kernel
theorem dX7_is_8 : decode cX7_is 8 = .ok (.isub, 1) := by decide +kernel
theorem dX7_is_9 : decode cX7_is 9 = .ok (.iload_n 1, 1) := by decide +kernel
theorem dX7_is_10 : decode cX7_is 10 = .ok (.if_icmp .ne 48, 3) := by decide +kernel
theorem dX7_is_13 : decode cX7_is 13 = .ok (.aload_n 0, 1) := by decide +kernel
theorem dX7_is_14 : decode cX7_is 14 = .ok (.aload_n 0, 1) := by decide +kernel
theorem dX7_is_15 : decode cX7_is 15 = .ok (.getfield 82, 3) := by decide +kernel
theorem dX7_is_18 : decode cX7_is 18 = .ok (.invokevirtual 91, 3) := by decide +kernel
theorem dX7_is_21 : decode cX7_is 21 = .ok (.iload_n 2, 1) := by decide +kernel
theorem dX7_is_22 : decode cX7_is 22 = .ok (.if_icmp .ne 36, 3) := by decide +kernel
theorem dX7_is_25 : decode cX7_is 25 = .ok (.aload_n 0, 1) := by decide +kernel
theorem dX7_is_26 : decode cX7_is 26 = .ok (.aload_n 0, 1) := by decide +kernel
theorem dX7_is_27 : decode cX7_is 27 = .ok (.getfield 82, 3) := by decide +kernel
theorem dX7_is_30 : decode cX7_is 30 = .ok (.iconst 1, 1) := by decide +kernel
theorem dX7_is_31 : decode cX7_is 31 = .ok (.iadd, 1) := by decide +kernel
theorem dX7_is_32 : decode cX7_is 32 = .ok (.invokevirtual 91, 3) := by decide +kernel
theorem dX7_is_35 : decode cX7_is 35 = .ok (.iload_n 3, 1) := by decide +kernel
theorem dX7_is_36 : decode cX7_is 36 = .ok (.if_icmp .ne 22, 3) := by decide +kernel
theorem dX7_is_39 : decode cX7_is 39 = .ok (.aload_n 0, 1) := by decide +kernel
theorem dX7_is_40 : decode cX7_is 40 = .ok (.aload_n 0, 1) := by decide +kernel
theorem dX7_is_41 : decode cX7_is 41 = .ok (.getfield 82, 3) := by decide +kernel
theorem dX7_is_44 : decode cX7_is 44 = .ok (.iconst 2, 1) := by decide +kernel
theorem dX7_is_45 : decode cX7_is 45 = .ok (.iadd, 1) := by decide +kernel
theorem dX7_is_46 : decode cX7_is 46 = .ok (.invokevirtual 91, 3) := by decide +kernel
theorem dX7_is_49 : decode cX7_is 49 = .ok (.iload 4, 2) := by decide +kernel
theorem dX7_is_51 : decode cX7_is 51 = .ok (.if_icmp .ne 7, 3) := by decide +kernel
theorem dX7_is_54 : decode cX7_is 54 = .ok (.iconst 1, 1) := by decide +kernel
theorem dX7_is_55 : decode cX7_is 55 = .ok (.goto 4, 3) := by decide +kernel
theorem dX7_is_58 : decode cX7_is 58 = .ok (.iconst 0, 1) := by decide +kernel
theorem dX7_is_59 : decode cX7_is 59 = .ok (.ireturn, 1) := by decide +kernel
theorem dX7_ends_0 : decode cX7_ends 0 = .ok (.aload_n 0, 1) := by decide +kernel
theorem dX7_ends_1 : decode cX7_ends 1 = .ok (.aload_n 0, 1) := by decide +kernel
theorem dX7_ends_2 : decode cX7_ends 2 = .ok (.getfield 82, 3) := by decide +kernel
theorem dX7_ends_5 : decode cX7_ends 5 = .ok (.iconst 3, 1) := by decide +kernel
theorem dX7_ends_6 : decode cX7_ends 6 = .ok (.iadd, 1) := by decide +kernel
theorem dX7_ends_7 : decode cX7_ends 7 = .ok (.invokevirtual 91, 3) := by decide +kernel
theorem dX7_ends_10 : decode cX7_ends 10 = .ok (.iload_n 1, 1) := by decide +kernel
theorem dX7_ends_11 : decode cX7_ends 11 = .ok (.if_icmp .ne 43, 3) := by decide +kernel
theorem dX7_ends_14 : decode cX7_ends 14 = .ok (.iload_n 2, 1) := by decide +kernel
theorem dX7_ends_15 : decode cX7_ends 15 = .ok (.ifCond .eq 17, 3) := by decide +kernel
theorem dX7_ends_18 : decode cX7_ends 18 = .ok (.aload_n 0, 1) := by decide +kernel
theorem dX7_ends_19 : decode cX7_ends 19 = .ok (.aload_n 0, 1) := by decide +kernel
theorem dX7_ends_20 : decode cX7_ends 20 = .ok (.getfield 82, 3) := by decide +kernel
theorem dX7_ends_23 : decode cX7_ends 23 = .ok (.iconst 4, 1) := by decide +kernel
theorem dX7_ends_24 : decode cX7_ends 24 = .ok (.iadd, 1) := by decide +kernel
theorem dX7_ends_25 : decode cX7_ends 25 = .ok (.invokevirtual 91, 3) := by decide +kernel
theorem dX7_ends_28 : decode cX7_ends 28 = .ok (.iload_n 2, 1) := by decide +kernel
theorem dX7_ends_29 : decode cX7_ends 29 = .ok (.if_icmp .ne 25, 3) := by decide +kernel
theorem dX7_ends_32 : decode cX7_ends 32 = .ok (.iload_n 3, 1) := by decide +kernel
theorem dX7_ends_33 : decode cX7_ends 33 = .ok (.ifCond .eq 17, 3) := by decide +kernel
theorem dX7_ends_36 : decode cX7_ends 36 = .ok (.aload_n 0, 1) := by decide +kernel
theorem dX7_ends_37 : decode cX7_ends 37 = .ok (.aload_n 0, 1) := by decide +kernel
theorem dX7_ends_38 : decode cX7_ends 38 = .ok (.getfield 82, 3) := by decide +kernel
theorem dX7_ends_41 : decode cX7_ends 41 = .ok (.iconst 5, 1) := by decide +kernel
theorem dX7_ends_42 : decode cX7_ends 42 = .ok (.iadd, 1) := by decide +kernel
theorem dX7_ends_43 : decode cX7_ends 43 = .ok (.invokevirtual 91, 3) := by decide +kernel
theorem dX7_ends_46 : decode cX7_ends 46 = .ok (.iload_n 3, 1) := by decide +kernel
theorem dX7_ends_47 : decode cX7_ends 47 = .ok (.if_icmp .ne 7, 3) := by decide +kernel
theorem dX7_ends_50 : decode cX7_ends 50 = .ok (.iconst 1, 1) := by decide +kernel
theorem dX7_ends_51 : decode cX7_ends 51 = .ok (.goto 4, 3) := by decide +kernel
theorem dX7_ends_54 : decode cX7_ends 54 = .ok (.iconst 0, 1) := by decide +kernel
theorem dX7_ends_55 : decode cX7_ends 55 = .ok (.ireturn, 1) := by decide +kernel
theorem dX7_lineNow_0 : decode cX7_lineNow 0 = .ok (.aload_n 0, 1) := by decide +kernel
theorem dX7_lineNow_1 : decode cX7_lineNow 1 = .ok (.bipush 6, 2) := by decide +kernel
theorem dX7_lineNow_3 : decode cX7_lineNow 3 = .ok (.bipush 112, 2) := by decide +kernel
theorem dX7_lineNow_5 : decode cX7_lineNow 5 = .ok (.bipush 111, 2) := by decide +kernel
theorem dX7_lineNow_7 : decode cX7_lineNow 7 = .ok (.bipush 108, 2) := by decide +kernel
theorem dX7_lineNow_9 : decode cX7_lineNow 9 = .ok (.invokevirtual 95, 3) := by decide +kernel
theorem dX7_lineNow_12 : decode cX7_lineNow 12 = .ok (.ifCond .eq 18, 3) := by decide +kernel
theorem dX7_lineNow_15 : decode cX7_lineNow 15 = .ok (.aload_n 0, 1) := by decide +kernel
theorem dX7_lineNow_16 : decode cX7_lineNow 16 = .ok (.bipush 105, 2) := by decide +kernel
theorem dX7_lineNow_18 : decode cX7_lineNow 18 = .ok (.bipush 116, 2) := by decide +kernel
theorem dX7_lineNow_20 : decode cX7_lineNow 20 = .ok (.bipush 101, 2) := by decide +kernel
theorem dX7_lineNow_22 : decode cX7_lineNow 22 = .ok (.invokevirtual 99, 3) := by decide +kernel
theorem dX7_lineNow_25 : decode cX7_lineNow 25 = .ok (.ifCond .eq 5, 3) := by decide +kernel
theorem dX7_lineNow_28 : decode cX7_lineNow 28 = .ok (.iconst 0, 1) := by decide +kernel
theorem dX7_lineNow_29 : decode cX7_lineNow 29 = .ok (.ireturn, 1) := by decide +kernel
theorem dX7_lineNow_30 : decode cX7_lineNow 30 = .ok (.aload_n 0, 1) := by decide +kernel
theorem dX7_lineNow_31 : decode cX7_lineNow 31 = .ok (.iconst 4, 1) := by decide +kernel
theorem dX7_lineNow_32 : decode cX7_lineNow 32 = .ok (.bipush 114, 2) := by decide +kernel
theorem dX7_lineNow_34 : decode cX7_lineNow 34 = .ok (.bipush 117, 2) := by decide +kernel
theorem dX7_lineNow_36 : decode cX7_lineNow 36 = .ok (.bipush 100, 2) := by decide +kernel
theorem dX7_lineNow_38 : decode cX7_lineNow 38 = .ok (.invokevirtual 95, 3) := by decide +kernel
theorem dX7_lineNow_41 : decode cX7_lineNow 41 = .ok (.ifCond .eq 16, 3) := by decide +kernel
theorem dX7_lineNow_44 : decode cX7_lineNow 44 = .ok (.aload_n 0, 1) := by decide +kernel
theorem dX7_lineNow_45 : decode cX7_lineNow 45 = .ok (.bipush 101, 2) := by decide +kernel
theorem dX7_lineNow_47 : decode cX7_lineNow 47 = .ok (.iconst 0, 1) := by decide +kernel
theorem dX7_lineNow_48 : decode cX7_lineNow 48 = .ok (.iconst 0, 1) := by decide +kernel
theorem dX7_lineNow_49 : decode cX7_lineNow 49 = .ok (.invokevirtual 99, 3) := by decide +kernel
theorem dX7_lineNow_52 : decode cX7_lineNow 52 = .ok (.ifCond .eq 5, 3) := by decide +kernel
theorem dX7_lineNow_55 : decode cX7_lineNow 55 = .ok (.iconst 1, 1) := by decide +kernel
theorem dX7_lineNow_56 : decode cX7_lineNow 56 = .ok (.ireturn, 1) := by decide +kernel
theorem dX7_lineNow_57 : decode cX7_lineNow 57 = .ok (.aload_n 0, 1) := by decide +kernel
theorem dX7_lineNow_58 : decode cX7_lineNow 58 = .ok (.iconst 4, 1) := by decide +kernel
theorem dX7_lineNow_59 : decode cX7_lineNow 59 = .ok (.bipush 100, 2) := by decide +kernel
theorem dX7_lineNow_61 : decode cX7_lineNow 61 = .ok (.bipush 101, 2) := by decide +kernel
theorem dX7_lineNow_63 : decode cX7_lineNow 63 = .ok (.bipush 97, 2) := by decide +kernel
theorem dX7_lineNow_65 : decode cX7_lineNow 65 = .ok (.invokevirtual 95, 3) := by decide +kernel
theorem dX7_lineNow_68 : decode cX7_lineNow 68 = .ok (.ifCond .eq 16, 3) := by decide +kernel
theorem dX7_lineNow_71 : decode cX7_lineNow 71 = .ok (.aload_n 0, 1) := by decide +kernel
theorem dX7_lineNow_72 : decode cX7_lineNow 72 = .ok (.bipush 102, 2) := by decide +kernel
theorem dX7_lineNow_74 : decode cX7_lineNow 74 = .ok (.iconst 0, 1) := by decide +kernel
theorem dX7_lineNow_75 : decode cX7_lineNow 75 = .ok (.iconst 0, 1) := by decide +kernel
theorem dX7_lineNow_76 : decode cX7_lineNow 76 = .ok (.invokevirtual 99, 3) := by decide +kernel
theorem dX7_lineNow_79 : decode cX7_lineNow 79 = .ok (.ifCond .eq 5, 3) := by decide +kernel
theorem dX7_lineNow_82 : decode cX7_lineNow 82 = .ok (.iconst 2, 1) := by decide +kernel
theorem dX7_lineNow_83 : decode cX7_lineNow 83 = .ok (.ireturn, 1) := by decide +kernel
theorem dX7_lineNow_84 : decode cX7_lineNow 84 = .ok (.aload_n 0, 1) := by decide +kernel
theorem dX7_lineNow_85 : decode cX7_lineNow 85 = .ok (.iconst 4, 1) := by decide +kernel
theorem dX7_lineNow_86 : decode cX7_lineNow 86 = .ok (.bipush 99, 2) := by decide +kernel
theorem dX7_lineNow_88 : decode cX7_lineNow 88 = .ok (.bipush 111, 2) := by decide +kernel
theorem dX7_lineNow_90 : decode cX7_lineNow 90 = .ok (.bipush 111, 2) := by decide +kernel
theorem dX7_lineNow_92 : decode cX7_lineNow 92 = .ok (.invokevirtual 95, 3) := by decide +kernel
theorem dX7_lineNow_95 : decode cX7_lineNow 95 = .ok (.ifCond .eq 16, 3) := by decide +kernel
theorem dX7_lineNow_98 : decode cX7_lineNow 98 = .ok (.aload_n 0, 1) := by decide +kernel
theorem dX7_lineNow_99 : decode cX7_lineNow 99 = .ok (.bipush 107, 2) := by decide +kernel
theorem dX7_lineNow_101 : decode cX7_lineNow 101 = .ok (.iconst 0, 1) := by decide +kernel
theorem dX7_lineNow_102 : decode cX7_lineNow 102 = .ok (.iconst 0, 1) := by decide +kernel
theorem dX7_lineNow_103 : decode cX7_lineNow 103 = .ok (.invokevirtual 99, 3) := by decide +kernel
theorem dX7_lineNow_106 : decode cX7_lineNow 106 = .ok (.ifCond .eq 5, 3) := by decide +kernel
theorem dX7_lineNow_109 : decode cX7_lineNow 109 = .ok (.iconst 3, 1) := by decide +kernel
theorem dX7_lineNow_110 : decode cX7_lineNow 110 = .ok (.ireturn, 1) := by decide +kernel
theorem dX7_lineNow_111 : decode cX7_lineNow 111 = .ok (.aload_n 0, 1) := by decide +kernel
theorem dX7_lineNow_112 : decode cX7_lineNow 112 = .ok (.iconst 4, 1) := by decide +kernel
theorem dX7_lineNow_113 : decode cX7_lineNow 113 = .ok (.bipush 102, 2) := by decide +kernel
theorem dX7_lineNow_115 : decode cX7_lineNow 115 = .ok (.bipush 105, 2) := by decide +kernel
theorem dX7_lineNow_117 : decode cX7_lineNow 117 = .ok (.bipush 114, 2) := by decide +kernel
theorem dX7_lineNow_119 : decode cX7_lineNow 119 = .ok (.invokevirtual 95, 3) := by decide +kernel
theorem dX7_lineNow_122 : decode cX7_lineNow 122 = .ok (.ifCond .eq 16, 3) := by decide +kernel
theorem dX7_lineNow_125 : decode cX7_lineNow 125 = .ok (.aload_n 0, 1) := by decide +kernel
theorem dX7_lineNow_126 : decode cX7_lineNow 126 = .ok (.bipush 101, 2) := by decide +kernel
theorem dX7_lineNow_128 : decode cX7_lineNow 128 = .ok (.iconst 0, 1) := by decide +kernel
theorem dX7_lineNow_129 : decode cX7_lineNow 129 = .ok (.iconst 0, 1) := by decide +kernel
theorem dX7_lineNow_130 : decode cX7_lineNow 130 = .ok (.invokevirtual 99, 3) := by decide +kernel
theorem dX7_lineNow_133 : decode cX7_lineNow 133 = .ok (.ifCond .eq 5, 3) := by decide +kernel
theorem dX7_lineNow_136 : decode cX7_lineNow 136 = .ok (.iconst 4, 1) := by decide +kernel
theorem dX7_lineNow_137 : decode cX7_lineNow 137 = .ok (.ireturn, 1) := by decide +kernel
theorem dX7_lineNow_138 : decode cX7_lineNow 138 = .ok (.aload_n 0, 1) := by decide +kernel
theorem dX7_lineNow_139 : decode cX7_lineNow 139 = .ok (.iconst 4, 1) := by decide +kernel
theorem dX7_lineNow_140 : decode cX7_lineNow 140 = .ok (.bipush 114, 2) := by decide +kernel
theorem dX7_lineNow_142 : decode cX7_lineNow 142 = .ok (.bipush 97, 2) := by decide +kernel
theorem dX7_lineNow_144 : decode cX7_lineNow 144 = .ok (.bipush 105, 2) := by decide +kernel
theorem dX7_lineNow_146 : decode cX7_lineNow 146 = .ok (.invokevirtual 95, 3) := by decide +kernel
theorem dX7_lineNow_149 : decode cX7_lineNow 149 = .ok (.ifCond .eq 18, 3) := by decide +kernel
theorem dX7_lineNow_152 : decode cX7_lineNow 152 = .ok (.aload_n 0, 1) := by decide +kernel
theorem dX7_lineNow_153 : decode cX7_lineNow 153 = .ok (.bipush 110, 2) := by decide +kernel
theorem dX7_lineNow_155 : decode cX7_lineNow 155 = .ok (.iconst 0, 1) := by decide +kernel
theorem dX7_lineNow_156 : decode cX7_lineNow 156 = .ok (.iconst 0, 1) := by decide +kernel
theorem dX7_lineNow_157 : decode cX7_lineNow 157 = .ok (.invokevirtual 99, 3) := by decide +kernel
theorem dX7_lineNow_160 : decode cX7_lineNow 160 = .ok (.ifCond .eq 7, 3) := by decide +kernel
theorem dX7_lineNow_163 : decode cX7_lineNow 163 = .ok (.iconst 5, 1) := by decide +kernel
theorem dX7_lineNow_164 : decode cX7_lineNow 164 = .ok (.goto 36, 3) := by decide +kernel
theorem dX7_lineNow_167 : decode cX7_lineNow 167 = .ok (.aload_n 0, 1) := by decide +kernel
theorem dX7_lineNow_168 : decode cX7_lineNow 168 = .ok (.iconst 5, 1) := by decide +kernel
theorem dX7_lineNow_169 : decode cX7_lineNow 169 = .ok (.bipush 111, 2) := by decide +kernel
theorem dX7_lineNow_171 : decode cX7_lineNow 171 = .ok (.bipush 102, 2) := by decide +kernel
theorem dX7_lineNow_173 : decode cX7_lineNow 173 = .ok (.bipush 102, 2) := by decide +kernel
theorem dX7_lineNow_175 : decode cX7_lineNow 175 = .ok (.invokevirtual 95, 3) := by decide +kernel
theorem dX7_lineNow_178 : decode cX7_lineNow 178 = .ok (.ifCond .eq 20, 3) := by decide +kernel
theorem dX7_lineNow_181 : decode cX7_lineNow 181 = .ok (.aload_n 0, 1) := by decide +kernel
theorem dX7_lineNow_182 : decode cX7_lineNow 182 = .ok (.bipush 101, 2) := by decide +kernel
theorem dX7_lineNow_184 : decode cX7_lineNow 184 = .ok (.bipush 114, 2) := by decide +kernel
theorem dX7_lineNow_186 : decode cX7_lineNow 186 = .ok (.iconst 0, 1) := by decide +kernel
theorem dX7_lineNow_187 : decode cX7_lineNow 187 = .ok (.invokevirtual 99, 3) := by decide +kernel
theorem dX7_lineNow_190 : decode cX7_lineNow 190 = .ok (.ifCond .eq 8, 3) := by decide +kernel
theorem dX7_lineNow_193 : decode cX7_lineNow 193 = .ok (.bipush 6, 2) := by decide +kernel
theorem dX7_lineNow_195 : decode cX7_lineNow 195 = .ok (.goto 5, 3) := by decide +kernel
theorem dX7_lineNow_198 : decode cX7_lineNow 198 = .ok (.bipush (-4), 2) := by decide +kernel
theorem dX7_lineNow_200 : decode cX7_lineNow 200 = .ok (.ireturn, 1) := by decide +kernel
theorem dX7_next_0 : decode cX7_next 0 = .ok (.aload_n 0, 1) := by decide +kernel
theorem dX7_next_1 : decode cX7_next 1 = .ok (.getfield 79, 3) := by decide +kernel
theorem dX7_next_4 : decode cX7_next 4 = .ok (.ifCond .le 4, 3) := by decide +kernel
theorem dX7_next_7 : decode cX7_next 7 = .ok (.return_, 1) := by decide +kernel
theorem dX7_next_8 : decode cX7_next 8 = .ok (.aload_n 0, 1) := by decide +kernel
theorem dX7_next_9 : decode cX7_next 9 = .ok (.aload_n 0, 1) := by decide +kernel
theorem dX7_next_10 : decode cX7_next 10 = .ok (.getfield 88, 3) := by decide +kernel
theorem dX7_next_13 : decode cX7_next 13 = .ok (.invokevirtual 91, 3) := by decide +kernel
theorem dX7_next_16 : decode cX7_next 16 = .ok (.bipush 32, 2) := by decide +kernel
theorem dX7_next_18 : decode cX7_next 18 = .ok (.if_icmp .ne 16, 3) := by decide +kernel
theorem dX7_next_21 : decode cX7_next 21 = .ok (.aload_n 0, 1) := by decide +kernel
theorem dX7_next_22 : decode cX7_next 22 = .ok (.dup, 1) := by decide +kernel
theorem dX7_next_23 : decode cX7_next 23 = .ok (.getfield 88, 3) := by decide +kernel
theorem dX7_next_26 : decode cX7_next 26 = .ok (.iconst 1, 1) := by decide +kernel
theorem dX7_next_27 : decode cX7_next 27 = .ok (.iadd, 1) := by decide +kernel
theorem dX7_next_28 : decode cX7_next 28 = .ok (.putfield 88, 3) := by decide +kernel
theorem dX7_next_31 : decode cX7_next 31 = .ok (.goto (-23), 3) := by decide +kernel
theorem dX7_next_34 : decode cX7_next 34 = .ok (.aload_n 0, 1) := by decide +kernel
theorem dX7_next_35 : decode cX7_next 35 = .ok (.aload_n 0, 1) := by decide +kernel
theorem dX7_next_36 : decode cX7_next 36 = .ok (.getfield 88, 3) := by decide +kernel
theorem dX7_next_39 : decode cX7_next 39 = .ok (.putfield 82, 3) := by decide +kernel
theorem dX7_next_42 : decode cX7_next 42 = .ok (.aload_n 0, 1) := by decide +kernel
theorem dX7_next_43 : decode cX7_next 43 = .ok (.aload_n 0, 1) := by decide +kernel
theorem dX7_next_44 : decode cX7_next 44 = .ok (.getfield 88, 3) := by decide +kernel
theorem dX7_next_47 : decode cX7_next 47 = .ok (.invokevirtual 91, 3) := by decide +kernel
theorem dX7_next_50 : decode cX7_next 50 = .ok (.istore_n 1, 1) := by decide +kernel
theorem dX7_next_51 : decode cX7_next 51 = .ok (.iload_n 1, 1) := by decide +kernel
theorem dX7_next_52 : decode cX7_next 52 = .ok (.ifCond .ge 11, 3) := by decide +kernel
theorem dX7_next_55 : decode cX7_next 55 = .ok (.aload_n 0, 1) := by decide +kernel
theorem dX7_next_56 : decode cX7_next 56 = .ok (.iconst 0, 1) := by decide +kernel
theorem dX7_next_57 : decode cX7_next 57 = .ok (.putfield 103, 3) := by decide +kernel
theorem dX7_next_60 : decode cX7_next 60 = .ok (.goto 214, 3) := by decide +kernel
theorem dX7_next_63 : decode cX7_next 63 = .ok (.iload_n 1, 1) := by decide +kernel
theorem dX7_next_64 : decode cX7_next 64 = .ok (.i2l, 1) := by decide +kernel
theorem dX7_next_65 : decode cX7_next 65 = .ok (.ldc2_w 106, 3) := by decide +kernel
theorem dX7_next_68 : decode cX7_next 68 = .ok (.ldc2_w 108, 3) := by decide +kernel
theorem dX7_next_71 : decode cX7_next 71 = .ok (.invokestatic 72, 3) := by decide +kernel
theorem dX7_next_74 : decode cX7_next 74 = .ok (.ifCond .eq 42, 3) := by decide +kernel
theorem dX7_next_77 : decode cX7_next 77 = .ok (.aload_n 0, 1) := by decide +kernel
theorem dX7_next_78 : decode cX7_next 78 = .ok (.iconst 1, 1) := by decide +kernel
theorem dX7_next_79 : decode cX7_next 79 = .ok (.putfield 103, 3) := by decide +kernel
theorem dX7_next_82 : decode cX7_next 82 = .ok (.aload_n 0, 1) := by decide +kernel
theorem dX7_next_83 : decode cX7_next 83 = .ok (.aload_n 0, 1) := by decide +kernel
theorem dX7_next_84 : decode cX7_next 84 = .ok (.getfield 88, 3) := by decide +kernel
theorem dX7_next_87 : decode cX7_next 87 = .ok (.invokevirtual 91, 3) := by decide +kernel
theorem dX7_next_90 : decode cX7_next 90 = .ok (.i2l, 1) := by decide +kernel
theorem dX7_next_91 : decode cX7_next 91 = .ok (.ldc2_w 106, 3) := by decide +kernel
theorem dX7_next_94 : decode cX7_next 94 = .ok (.ldc2_w 108, 3) := by decide +kernel
theorem dX7_next_97 : decode cX7_next 97 = .ok (.invokestatic 72, 3) := by decide +kernel
theorem dX7_next_100 : decode cX7_next 100 = .ok (.ifCond .eq 174, 3) := by decide +kernel
theorem dX7_next_103 : decode cX7_next 103 = .ok (.aload_n 0, 1) := by decide +kernel
theorem dX7_next_104 : decode cX7_next 104 = .ok (.dup, 1) := by decide +kernel
theorem dX7_next_105 : decode cX7_next 105 = .ok (.getfield 88, 3) := by decide +kernel
theorem dX7_next_108 : decode cX7_next 108 = .ok (.iconst 1, 1) := by decide +kernel
theorem dX7_next_109 : decode cX7_next 109 = .ok (.iadd, 1) := by decide +kernel
theorem dX7_next_110 : decode cX7_next 110 = .ok (.putfield 88, 3) := by decide +kernel
theorem dX7_next_113 : decode cX7_next 113 = .ok (.goto (-31), 3) := by decide +kernel
theorem dX7_next_116 : decode cX7_next 116 = .ok (.iload_n 1, 1) := by decide +kernel
theorem dX7_next_117 : decode cX7_next 117 = .ok (.i2l, 1) := by decide +kernel
theorem dX7_next_118 : decode cX7_next 118 = .ok (.ldc2_w 110, 3) := by decide +kernel
theorem dX7_next_121 : decode cX7_next 121 = .ok (.ldc2_w 112, 3) := by decide +kernel
theorem dX7_next_124 : decode cX7_next 124 = .ok (.invokestatic 72, 3) := by decide +kernel
theorem dX7_next_127 : decode cX7_next 127 = .ok (.ifCond .eq 116, 3) := by decide +kernel
theorem dX7_next_130 : decode cX7_next 130 = .ok (.aload_n 0, 1) := by decide +kernel
theorem dX7_next_131 : decode cX7_next 131 = .ok (.iconst 2, 1) := by decide +kernel
theorem dX7_next_132 : decode cX7_next 132 = .ok (.putfield 103, 3) := by decide +kernel
theorem dX7_next_135 : decode cX7_next 135 = .ok (.aload_n 0, 1) := by decide +kernel
theorem dX7_next_136 : decode cX7_next 136 = .ok (.iconst 0, 1) := by decide +kernel
theorem dX7_next_137 : decode cX7_next 137 = .ok (.putfield 114, 3) := by decide +kernel
theorem dX7_next_140 : decode cX7_next 140 = .ok (.aload_n 0, 1) := by decide +kernel
theorem dX7_next_141 : decode cX7_next 141 = .ok (.aload_n 0, 1) := by decide +kernel
theorem dX7_next_142 : decode cX7_next 142 = .ok (.getfield 88, 3) := by decide +kernel
theorem dX7_next_145 : decode cX7_next 145 = .ok (.invokevirtual 91, 3) := by decide +kernel
theorem dX7_next_148 : decode cX7_next 148 = .ok (.i2l, 1) := by decide +kernel
theorem dX7_next_149 : decode cX7_next 149 = .ok (.ldc2_w 110, 3) := by decide +kernel
theorem dX7_next_152 : decode cX7_next 152 = .ok (.ldc2_w 112, 3) := by decide +kernel
theorem dX7_next_155 : decode cX7_next 155 = .ok (.invokestatic 72, 3) := by decide +kernel
theorem dX7_next_158 : decode cX7_next 158 = .ok (.ifCond .eq 59, 3) := by decide +kernel
theorem dX7_next_161 : decode cX7_next 161 = .ok (.aload_n 0, 1) := by decide +kernel
theorem dX7_next_162 : decode cX7_next 162 = .ok (.aload_n 0, 1) := by decide +kernel
theorem dX7_next_163 : decode cX7_next 163 = .ok (.getfield 88, 3) := by decide +kernel
theorem dX7_next_166 : decode cX7_next 166 = .ok (.aload_n 0, 1) := by decide +kernel
theorem dX7_next_167 : decode cX7_next 167 = .ok (.getfield 82, 3) := by decide +kernel
theorem dX7_next_170 : decode cX7_next 170 = .ok (.isub, 1) := by decide +kernel
theorem dX7_next_171 : decode cX7_next 171 = .ok (.iconst 2, 1) := by decide +kernel
theorem dX7_next_172 : decode cX7_next 172 = .ok (.if_icmp .ge 25, 3) := by decide +kernel
theorem dX7_next_175 : decode cX7_next 175 = .ok (.bipush 10, 2) := by decide +kernel
theorem dX7_next_177 : decode cX7_next 177 = .ok (.aload_n 0, 1) := by decide +kernel
theorem dX7_next_178 : decode cX7_next 178 = .ok (.getfield 114, 3) := by decide +kernel
theorem dX7_next_181 : decode cX7_next 181 = .ok (.imul, 1) := by decide +kernel
theorem dX7_next_182 : decode cX7_next 182 = .ok (.aload_n 0, 1) := by decide +kernel
theorem dX7_next_183 : decode cX7_next 183 = .ok (.aload_n 0, 1) := by decide +kernel
theorem dX7_next_184 : decode cX7_next 184 = .ok (.getfield 88, 3) := by decide +kernel
theorem dX7_next_187 : decode cX7_next 187 = .ok (.invokevirtual 91, 3) := by decide +kernel
theorem dX7_next_190 : decode cX7_next 190 = .ok (.iadd, 1) := by decide +kernel
theorem dX7_next_191 : decode cX7_next 191 = .ok (.bipush 48, 2) := by decide +kernel
theorem dX7_next_193 : decode cX7_next 193 = .ok (.isub, 1) := by decide +kernel
theorem dX7_next_194 : decode cX7_next 194 = .ok (.goto 7, 3) := by decide +kernel
theorem dX7_next_197 : decode cX7_next 197 = .ok (.aload_n 0, 1) := by decide +kernel
theorem dX7_next_198 : decode cX7_next 198 = .ok (.getfield 114, 3) := by decide +kernel
theorem dX7_next_201 : decode cX7_next 201 = .ok (.putfield 114, 3) := by decide +kernel
theorem dX7_next_204 : decode cX7_next 204 = .ok (.aload_n 0, 1) := by decide +kernel
theorem dX7_next_205 : decode cX7_next 205 = .ok (.dup, 1) := by decide +kernel
theorem dX7_next_206 : decode cX7_next 206 = .ok (.getfield 88, 3) := by decide +kernel
theorem dX7_next_209 : decode cX7_next 209 = .ok (.iconst 1, 1) := by decide +kernel
theorem dX7_next_210 : decode cX7_next 210 = .ok (.iadd, 1) := by decide +kernel
theorem dX7_next_211 : decode cX7_next 211 = .ok (.putfield 88, 3) := by decide +kernel
theorem dX7_next_214 : decode cX7_next 214 = .ok (.goto (-74), 3) := by decide +kernel
theorem dX7_next_217 : decode cX7_next 217 = .ok (.aload_n 0, 1) := by decide +kernel
theorem dX7_next_218 : decode cX7_next 218 = .ok (.aload_n 0, 1) := by decide +kernel
theorem dX7_next_219 : decode cX7_next 219 = .ok (.getfield 88, 3) := by decide +kernel
theorem dX7_next_222 : decode cX7_next 222 = .ok (.aload_n 0, 1) := by decide +kernel
theorem dX7_next_223 : decode cX7_next 223 = .ok (.getfield 82, 3) := by decide +kernel
theorem dX7_next_226 : decode cX7_next 226 = .ok (.isub, 1) := by decide +kernel
theorem dX7_next_227 : decode cX7_next 227 = .ok (.iconst 2, 1) := by decide +kernel
theorem dX7_next_228 : decode cX7_next 228 = .ok (.if_icmp .gt 7, 3) := by decide +kernel
theorem dX7_next_231 : decode cX7_next 231 = .ok (.iconst 1, 1) := by decide +kernel
theorem dX7_next_232 : decode cX7_next 232 = .ok (.goto 4, 3) := by decide +kernel
theorem dX7_next_235 : decode cX7_next 235 = .ok (.iconst 0, 1) := by decide +kernel
theorem dX7_next_236 : decode cX7_next 236 = .ok (.iconst 1, 1) := by decide +kernel
theorem dX7_next_237 : decode cX7_next 237 = .ok (.invokevirtual 117, 3) := by decide +kernel
theorem dX7_next_240 : decode cX7_next 240 = .ok (.goto 34, 3) := by decide +kernel
theorem dX7_next_243 : decode cX7_next 243 = .ok (.aload_n 0, 1) := by decide +kernel
theorem dX7_next_244 : decode cX7_next 244 = .ok (.iconst 3, 1) := by decide +kernel
theorem dX7_next_245 : decode cX7_next 245 = .ok (.putfield 103, 3) := by decide +kernel
theorem dX7_next_248 : decode cX7_next 248 = .ok (.aload_n 0, 1) := by decide +kernel
theorem dX7_next_249 : decode cX7_next 249 = .ok (.iload_n 1, 1) := by decide +kernel
theorem dX7_next_250 : decode cX7_next 250 = .ok (.bipush 59, 2) := by decide +kernel
theorem dX7_next_252 : decode cX7_next 252 = .ok (.if_icmp .ne 7, 3) := by decide +kernel
theorem dX7_next_255 : decode cX7_next 255 = .ok (.iconst 1, 1) := by decide +kernel
theorem dX7_next_256 : decode cX7_next 256 = .ok (.goto 4, 3) := by decide +kernel
theorem dX7_next_259 : decode cX7_next 259 = .ok (.iconst 0, 1) := by decide +kernel
theorem dX7_next_260 : decode cX7_next 260 = .ok (.iconst 1, 1) := by decide +kernel
theorem dX7_next_261 : decode cX7_next 261 = .ok (.invokevirtual 117, 3) := by decide +kernel
theorem dX7_next_264 : decode cX7_next 264 = .ok (.aload_n 0, 1) := by decide +kernel
theorem dX7_next_265 : decode cX7_next 265 = .ok (.dup, 1) := by decide +kernel
theorem dX7_next_266 : decode cX7_next 266 = .ok (.getfield 88, 3) := by decide +kernel
theorem dX7_next_269 : decode cX7_next 269 = .ok (.iconst 1, 1) := by decide +kernel
theorem dX7_next_270 : decode cX7_next 270 = .ok (.iadd, 1) := by decide +kernel
theorem dX7_next_271 : decode cX7_next 271 = .ok (.putfield 88, 3) := by decide +kernel
theorem dX7_next_274 : decode cX7_next 274 = .ok (.return_, 1) := by decide +kernel
theorem dX7_looked_0 : decode cX7_looked 0 = .ok (.aload_n 0, 1) := by decide +kernel
theorem dX7_looked_1 : decode cX7_looked 1 = .ok (.getfield 79, 3) := by decide +kernel
theorem dX7_looked_4 : decode cX7_looked 4 = .ok (.ifCond .ne 21, 3) := by decide +kernel
theorem dX7_looked_7 : decode cX7_looked 7 = .ok (.aload_n 0, 1) := by decide +kernel
theorem dX7_looked_8 : decode cX7_looked 8 = .ok (.aload_n 0, 1) := by decide +kernel
theorem dX7_looked_9 : decode cX7_looked 9 = .ok (.getfield 103, 3) := by decide +kernel
theorem dX7_looked_12 : decode cX7_looked 12 = .ok (.iconst 2, 1) := by decide +kernel
theorem dX7_looked_13 : decode cX7_looked 13 = .ok (.if_icmp .ne 7, 3) := by decide +kernel
theorem dX7_looked_16 : decode cX7_looked 16 = .ok (.iconst 1, 1) := by decide +kernel
theorem dX7_looked_17 : decode cX7_looked 17 = .ok (.goto 4, 3) := by decide +kernel
theorem dX7_looked_20 : decode cX7_looked 20 = .ok (.iconst 0, 1) := by decide +kernel
theorem dX7_looked_21 : decode cX7_looked 21 = .ok (.iconst 2, 1) := by decide +kernel
theorem dX7_looked_22 : decode cX7_looked 22 = .ok (.invokevirtual 117, 3) := by decide +kernel
theorem dX7_looked_25 : decode cX7_looked 25 = .ok (.aload_n 0, 1) := by decide +kernel
theorem dX7_looked_26 : decode cX7_looked 26 = .ok (.getfield 79, 3) := by decide +kernel
theorem dX7_looked_29 : decode cX7_looked 29 = .ok (.ifCond .ne 20, 3) := by decide +kernel
theorem dX7_looked_32 : decode cX7_looked 32 = .ok (.aload_n 0, 1) := by decide +kernel
theorem dX7_looked_33 : decode cX7_looked 33 = .ok (.aload_n 0, 1) := by decide +kernel
theorem dX7_looked_34 : decode cX7_looked 34 = .ok (.getfield 114, 3) := by decide +kernel
theorem dX7_looked_37 : decode cX7_looked 37 = .ok (.i2l, 1) := by decide +kernel
theorem dX7_looked_38 : decode cX7_looked 38 = .ok (.iload_n 1, 1) := by decide +kernel
theorem dX7_looked_39 : decode cX7_looked 39 = .ok (.i2l, 1) := by decide +kernel
theorem dX7_looked_40 : decode cX7_looked 40 = .ok (.iload_n 2, 1) := by decide +kernel
theorem dX7_looked_41 : decode cX7_looked 41 = .ok (.i2l, 1) := by decide +kernel
theorem dX7_looked_42 : decode cX7_looked 42 = .ok (.invokestatic 72, 3) := by decide +kernel
theorem dX7_looked_45 : decode cX7_looked 45 = .ok (.iconst 3, 1) := by decide +kernel
theorem dX7_looked_46 : decode cX7_looked 46 = .ok (.invokevirtual 117, 3) := by decide +kernel
theorem dX7_looked_49 : decode cX7_looked 49 = .ok (.aload_n 0, 1) := by decide +kernel
theorem dX7_looked_50 : decode cX7_looked 50 = .ok (.getfield 79, 3) := by decide +kernel
theorem dX7_looked_53 : decode cX7_looked 53 = .ok (.ifCond .ne 10, 3) := by decide +kernel
theorem dX7_looked_56 : decode cX7_looked 56 = .ok (.aload_n 0, 1) := by decide +kernel
theorem dX7_looked_57 : decode cX7_looked 57 = .ok (.getfield 114, 3) := by decide +kernel
theorem dX7_looked_60 : decode cX7_looked 60 = .ok (.goto 4, 3) := by decide +kernel
theorem dX7_looked_63 : decode cX7_looked 63 = .ok (.iconst 0, 1) := by decide +kernel
theorem dX7_looked_64 : decode cX7_looked 64 = .ok (.ireturn, 1) := by decide +kernel
theorem dX7_readNumber_0 : decode cX7_readNumber 0 = .ok (.aload_n 0, 1) := by decide +kernel
theorem dX7_readNumber_1 : decode cX7_readNumber 1 = .ok (.iload_n 1, 1) := by decide +kernel
theorem dX7_readNumber_2 : decode cX7_readNumber 2 = .ok (.iload_n 2, 1) := by decide +kernel
theorem dX7_readNumber_3 : decode cX7_readNumber 3 = .ok (.invokevirtual 121, 3) := by decide +kernel
theorem dX7_readNumber_6 : decode cX7_readNumber 6 = .ok (.istore_n 3, 1) := by decide +kernel
theorem dX7_readNumber_7 : decode cX7_readNumber 7 = .ok (.aload_n 0, 1) := by decide +kernel
theorem dX7_readNumber_8 : decode cX7_readNumber 8 = .ok (.invokevirtual 125, 3) := by decide +kernel
theorem dX7_readNumber_11 : decode cX7_readNumber 11 = .ok (.iload_n 3, 1) := by decide +kernel
theorem dX7_readNumber_12 : decode cX7_readNumber 12 = .ok (.ireturn, 1) := by decide +kernel
theorem dX7_readHouse_0 : decode cX7_readHouse 0 = .ok (.aload_n 0, 1) := by decide +kernel
theorem dX7_readHouse_1 : decode cX7_readHouse 1 = .ok (.iconst 0, 1) := by decide +kernel
theorem dX7_readHouse_2 : decode cX7_readHouse 2 = .ok (.iconst 4, 1) := by decide +kernel
theorem dX7_readHouse_3 : decode cX7_readHouse 3 = .ok (.invokevirtual 128, 3) := by decide +kernel
theorem dX7_readHouse_6 : decode cX7_readHouse 6 = .ok (.istore_n 1, 1) := by decide +kernel
theorem dX7_readHouse_7 : decode cX7_readHouse 7 = .ok (.aload_n 0, 1) := by decide +kernel
theorem dX7_readHouse_8 : decode cX7_readHouse 8 = .ok (.iload_n 1, 1) := by decide +kernel
theorem dX7_readHouse_9 : decode cX7_readHouse 9 = .ok (.aload_n 0, 1) := by decide +kernel
theorem dX7_readHouse_10 : decode cX7_readHouse 10 = .ok (.getfield 64, 3) := by decide +kernel
theorem dX7_readHouse_13 : decode cX7_readHouse 13 = .ok (.if_icmp .le 14, 3) := by decide +kernel
theorem dX7_readHouse_16 : decode cX7_readHouse 16 = .ok (.aload_n 0, 1) := by decide +kernel
theorem dX7_readHouse_17 : decode cX7_readHouse 17 = .ok (.getfield 79, 3) := by decide +kernel
theorem dX7_readHouse_20 : decode cX7_readHouse 20 = .ok (.ifCond .ne 7, 3) := by decide +kernel
theorem dX7_readHouse_23 : decode cX7_readHouse 23 = .ok (.iload_n 1, 1) := by decide +kernel
theorem dX7_readHouse_24 : decode cX7_readHouse 24 = .ok (.goto 7, 3) := by decide +kernel
theorem dX7_readHouse_27 : decode cX7_readHouse 27 = .ok (.aload_n 0, 1) := by decide +kernel
theorem dX7_readHouse_28 : decode cX7_readHouse 28 = .ok (.getfield 64, 3) := by decide +kernel
theorem dX7_readHouse_31 : decode cX7_readHouse 31 = .ok (.putfield 64, 3) := by decide +kernel
theorem dX7_readHouse_34 : decode cX7_readHouse 34 = .ok (.iload_n 1, 1) := by decide +kernel
theorem dX7_readHouse_35 : decode cX7_readHouse 35 = .ok (.ireturn, 1) := by decide +kernel
theorem dX7_readRain_0 : decode cX7_readRain 0 = .ok (.aload_n 0, 1) := by decide +kernel
theorem dX7_readRain_1 : decode cX7_readRain 1 = .ok (.iconst 0, 1) := by decide +kernel
theorem dX7_readRain_2 : decode cX7_readRain 2 = .ok (.bipush 6, 2) := by decide +kernel
theorem dX7_readRain_4 : decode cX7_readRain 4 = .ok (.invokevirtual 121, 3) := by decide +kernel
theorem dX7_readRain_7 : decode cX7_readRain 7 = .ok (.istore_n 1, 1) := by decide +kernel
theorem dX7_readRain_8 : decode cX7_readRain 8 = .ok (.aload_n 0, 1) := by decide +kernel
theorem dX7_readRain_9 : decode cX7_readRain 9 = .ok (.getfield 79, 3) := by decide +kernel
theorem dX7_readRain_12 : decode cX7_readRain 12 = .ok (.ifCond .ne 40, 3) := by decide +kernel
theorem dX7_readRain_15 : decode cX7_readRain 15 = .ok (.aload_n 0, 1) := by decide +kernel
theorem dX7_readRain_16 : decode cX7_readRain 16 = .ok (.aload_n 0, 1) := by decide +kernel
theorem dX7_readRain_17 : decode cX7_readRain 17 = .ok (.getfield 20, 3) := by decide +kernel
theorem dX7_readRain_20 : decode cX7_readRain 20 = .ok (.bipush 18, 2) := by decide +kernel
theorem dX7_readRain_22 : decode cX7_readRain 22 = .ok (.iaload, 1) := by decide +kernel
theorem dX7_readRain_23 : decode cX7_readRain 23 = .ok (.iload_n 1, 1) := by decide +kernel
theorem dX7_readRain_24 : decode cX7_readRain 24 = .ok (.ishr, 1) := by decide +kernel
theorem dX7_readRain_25 : decode cX7_readRain 25 = .ok (.iconst 1, 1) := by decide +kernel
theorem dX7_readRain_26 : decode cX7_readRain 26 = .ok (.iand, 1) := by decide +kernel
theorem dX7_readRain_27 : decode cX7_readRain 27 = .ok (.ifCond .ne 7, 3) := by decide +kernel
theorem dX7_readRain_30 : decode cX7_readRain 30 = .ok (.iconst 1, 1) := by decide +kernel
theorem dX7_readRain_31 : decode cX7_readRain 31 = .ok (.goto 4, 3) := by decide +kernel
theorem dX7_readRain_34 : decode cX7_readRain 34 = .ok (.iconst 0, 1) := by decide +kernel
theorem dX7_readRain_35 : decode cX7_readRain 35 = .ok (.iconst 4, 1) := by decide +kernel
theorem dX7_readRain_36 : decode cX7_readRain 36 = .ok (.invokevirtual 117, 3) := by decide +kernel
theorem dX7_readRain_39 : decode cX7_readRain 39 = .ok (.aload_n 0, 1) := by decide +kernel
theorem dX7_readRain_40 : decode cX7_readRain 40 = .ok (.getfield 20, 3) := by decide +kernel
theorem dX7_readRain_43 : decode cX7_readRain 43 = .ok (.bipush 18, 2) := by decide +kernel
theorem dX7_readRain_45 : decode cX7_readRain 45 = .ok (.dup2, 1) := by decide +kernel
theorem dX7_readRain_46 : decode cX7_readRain 46 = .ok (.iaload, 1) := by decide +kernel
theorem dX7_readRain_47 : decode cX7_readRain 47 = .ok (.iconst 1, 1) := by decide +kernel
theorem dX7_readRain_48 : decode cX7_readRain 48 = .ok (.iload_n 1, 1) := by decide +kernel
theorem dX7_readRain_49 : decode cX7_readRain 49 = .ok (.ishl, 1) := by decide +kernel
theorem dX7_readRain_50 : decode cX7_readRain 50 = .ok (.ior, 1) := by decide +kernel
theorem dX7_readRain_51 : decode cX7_readRain 51 = .ok (.iastore, 1) := by decide +kernel
theorem dX7_readRain_52 : decode cX7_readRain 52 = .ok (.aload_n 0, 1) := by decide +kernel
theorem dX7_readRain_53 : decode cX7_readRain 53 = .ok (.invokevirtual 125, 3) := by decide +kernel
theorem dX7_readRain_56 : decode cX7_readRain 56 = .ok (.return_, 1) := by decide +kernel
theorem dX7_readLineOf_0 : decode cX7_readLineOf 0 = .ok (.iload_n 1, 1) := by decide +kernel
theorem dX7_readLineOf_1 : decode cX7_readLineOf 1 = .ok (.tableswitch 124 4 6 #[27, 69, 76], 27) := by decide +kernel
theorem dX7_readLineOf_28 : decode cX7_readLineOf 28 = .ok (.aload_n 0, 1) := by decide +kernel
theorem dX7_readLineOf_29 : decode cX7_readLineOf 29 = .ok (.getfield 20, 3) := by decide +kernel
theorem dX7_readLineOf_32 : decode cX7_readLineOf 32 = .ok (.bipush 15, 2) := by decide +kernel
theorem dX7_readLineOf_34 : decode cX7_readLineOf 34 = .ok (.aload_n 0, 1) := by decide +kernel
theorem dX7_readLineOf_35 : decode cX7_readLineOf 35 = .ok (.invokevirtual 131, 3) := by decide +kernel
theorem dX7_readLineOf_38 : decode cX7_readLineOf 38 = .ok (.iastore, 1) := by decide +kernel
theorem dX7_readLineOf_39 : decode cX7_readLineOf 39 = .ok (.aload_n 0, 1) := by decide +kernel
theorem dX7_readLineOf_40 : decode cX7_readLineOf 40 = .ok (.getfield 20, 3) := by decide +kernel
theorem dX7_readLineOf_43 : decode cX7_readLineOf 43 = .ok (.bipush 16, 2) := by decide +kernel
theorem dX7_readLineOf_45 : decode cX7_readLineOf 45 = .ok (.aload_n 0, 1) := by decide +kernel
theorem dX7_readLineOf_46 : decode cX7_readLineOf 46 = .ok (.iconst 0, 1) := by decide +kernel
theorem dX7_readLineOf_47 : decode cX7_readLineOf 47 = .ok (.bipush 20, 2) := by decide +kernel
theorem dX7_readLineOf_49 : decode cX7_readLineOf 49 = .ok (.invokevirtual 128, 3) := by decide +kernel
theorem dX7_readLineOf_52 : decode cX7_readLineOf 52 = .ok (.iastore, 1) := by decide +kernel
theorem dX7_readLineOf_53 : decode cX7_readLineOf 53 = .ok (.aload_n 0, 1) := by decide +kernel
theorem dX7_readLineOf_54 : decode cX7_readLineOf 54 = .ok (.getfield 20, 3) := by decide +kernel
theorem dX7_readLineOf_57 : decode cX7_readLineOf 57 = .ok (.bipush 17, 2) := by decide +kernel
theorem dX7_readLineOf_59 : decode cX7_readLineOf 59 = .ok (.aload_n 0, 1) := by decide +kernel
theorem dX7_readLineOf_60 : decode cX7_readLineOf 60 = .ok (.iconst 0, 1) := by decide +kernel
theorem dX7_readLineOf_61 : decode cX7_readLineOf 61 = .ok (.bipush 9, 2) := by decide +kernel
theorem dX7_readLineOf_63 : decode cX7_readLineOf 63 = .ok (.invokevirtual 128, 3) := by decide +kernel
theorem dX7_readLineOf_66 : decode cX7_readLineOf 66 = .ok (.iastore, 1) := by decide +kernel
theorem dX7_readLineOf_67 : decode cX7_readLineOf 67 = .ok (.goto 98, 3) := by decide +kernel
theorem dX7_readLineOf_70 : decode cX7_readLineOf 70 = .ok (.aload_n 0, 1) := by decide +kernel
theorem dX7_readLineOf_71 : decode cX7_readLineOf 71 = .ok (.invokevirtual 135, 3) := by decide +kernel
theorem dX7_readLineOf_74 : decode cX7_readLineOf 74 = .ok (.goto 91, 3) := by decide +kernel
theorem dX7_readLineOf_77 : decode cX7_readLineOf 77 = .ok (.aload_n 0, 1) := by decide +kernel
theorem dX7_readLineOf_78 : decode cX7_readLineOf 78 = .ok (.getfield 23, 3) := by decide +kernel
theorem dX7_readLineOf_81 : decode cX7_readLineOf 81 = .ok (.iconst 2, 1) := by decide +kernel
theorem dX7_readLineOf_82 : decode cX7_readLineOf 82 = .ok (.aload_n 0, 1) := by decide +kernel
theorem dX7_readLineOf_83 : decode cX7_readLineOf 83 = .ok (.getfield 61, 3) := by decide +kernel
theorem dX7_readLineOf_86 : decode cX7_readLineOf 86 = .ok (.imul, 1) := by decide +kernel
theorem dX7_readLineOf_87 : decode cX7_readLineOf 87 = .ok (.aload_n 0, 1) := by decide +kernel
theorem dX7_readLineOf_88 : decode cX7_readLineOf 88 = .ok (.invokevirtual 131, 3) := by decide +kernel
theorem dX7_readLineOf_91 : decode cX7_readLineOf 91 = .ok (.iastore, 1) := by decide +kernel
theorem dX7_readLineOf_92 : decode cX7_readLineOf 92 = .ok (.aload_n 0, 1) := by decide +kernel
theorem dX7_readLineOf_93 : decode cX7_readLineOf 93 = .ok (.getfield 23, 3) := by decide +kernel
theorem dX7_readLineOf_96 : decode cX7_readLineOf 96 = .ok (.iconst 2, 1) := by decide +kernel
theorem dX7_readLineOf_97 : decode cX7_readLineOf 97 = .ok (.aload_n 0, 1) := by decide +kernel
theorem dX7_readLineOf_98 : decode cX7_readLineOf 98 = .ok (.getfield 61, 3) := by decide +kernel
theorem dX7_readLineOf_101 : decode cX7_readLineOf 101 = .ok (.imul, 1) := by decide +kernel
theorem dX7_readLineOf_102 : decode cX7_readLineOf 102 = .ok (.iconst 1, 1) := by decide +kernel
theorem dX7_readLineOf_103 : decode cX7_readLineOf 103 = .ok (.iadd, 1) := by decide +kernel
theorem dX7_readLineOf_104 : decode cX7_readLineOf 104 = .ok (.aload_n 0, 1) := by decide +kernel
theorem dX7_readLineOf_105 : decode cX7_readLineOf 105 = .ok (.iconst 1, 1) := by decide +kernel
theorem dX7_readLineOf_106 : decode cX7_readLineOf 106 = .ok (.bipush 20, 2) := by decide +kernel
theorem dX7_readLineOf_108 : decode cX7_readLineOf 108 = .ok (.invokevirtual 128, 3) := by decide +kernel
theorem dX7_readLineOf_111 : decode cX7_readLineOf 111 = .ok (.iastore, 1) := by decide +kernel
theorem dX7_readLineOf_112 : decode cX7_readLineOf 112 = .ok (.aload_n 0, 1) := by decide +kernel
theorem dX7_readLineOf_113 : decode cX7_readLineOf 113 = .ok (.dup, 1) := by decide +kernel
theorem dX7_readLineOf_114 : decode cX7_readLineOf 114 = .ok (.getfield 61, 3) := by decide +kernel
theorem dX7_readLineOf_117 : decode cX7_readLineOf 117 = .ok (.iconst 1, 1) := by decide +kernel
theorem dX7_readLineOf_118 : decode cX7_readLineOf 118 = .ok (.iadd, 1) := by decide +kernel
theorem dX7_readLineOf_119 : decode cX7_readLineOf 119 = .ok (.putfield 61, 3) := by decide +kernel
theorem dX7_readLineOf_122 : decode cX7_readLineOf 122 = .ok (.goto 43, 3) := by decide +kernel
theorem dX7_readLineOf_125 : decode cX7_readLineOf 125 = .ok (.aload_n 0, 1) := by decide +kernel
theorem dX7_readLineOf_126 : decode cX7_readLineOf 126 = .ok (.getfield 20, 3) := by decide +kernel
theorem dX7_readLineOf_129 : decode cX7_readLineOf 129 = .ok (.iconst 0, 1) := by decide +kernel
theorem dX7_readLineOf_130 : decode cX7_readLineOf 130 = .ok (.aload_n 0, 1) := by decide +kernel
theorem dX7_readLineOf_131 : decode cX7_readLineOf 131 = .ok (.getfield 53, 3) := by decide +kernel
theorem dX7_readLineOf_134 : decode cX7_readLineOf 134 = .ok (.iadd, 1) := by decide +kernel
theorem dX7_readLineOf_135 : decode cX7_readLineOf 135 = .ok (.iload_n 1, 1) := by decide +kernel
theorem dX7_readLineOf_136 : decode cX7_readLineOf 136 = .ok (.iastore, 1) := by decide +kernel
theorem dX7_readLineOf_137 : decode cX7_readLineOf 137 = .ok (.aload_n 0, 1) := by decide +kernel
theorem dX7_readLineOf_138 : decode cX7_readLineOf 138 = .ok (.getfield 20, 3) := by decide +kernel
theorem dX7_readLineOf_141 : decode cX7_readLineOf 141 = .ok (.iconst 5, 1) := by decide +kernel
theorem dX7_readLineOf_142 : decode cX7_readLineOf 142 = .ok (.aload_n 0, 1) := by decide +kernel
theorem dX7_readLineOf_143 : decode cX7_readLineOf 143 = .ok (.getfield 53, 3) := by decide +kernel
theorem dX7_readLineOf_146 : decode cX7_readLineOf 146 = .ok (.iadd, 1) := by decide +kernel
theorem dX7_readLineOf_147 : decode cX7_readLineOf 147 = .ok (.aload_n 0, 1) := by decide +kernel
theorem dX7_readLineOf_148 : decode cX7_readLineOf 148 = .ok (.iconst 0, 1) := by decide +kernel
theorem dX7_readLineOf_149 : decode cX7_readLineOf 149 = .ok (.bipush 99, 2) := by decide +kernel
theorem dX7_readLineOf_151 : decode cX7_readLineOf 151 = .ok (.invokevirtual 128, 3) := by decide +kernel
theorem dX7_readLineOf_154 : decode cX7_readLineOf 154 = .ok (.iastore, 1) := by decide +kernel
theorem dX7_readLineOf_155 : decode cX7_readLineOf 155 = .ok (.aload_n 0, 1) := by decide +kernel
theorem dX7_readLineOf_156 : decode cX7_readLineOf 156 = .ok (.dup, 1) := by decide +kernel
theorem dX7_readLineOf_157 : decode cX7_readLineOf 157 = .ok (.getfield 53, 3) := by decide +kernel
theorem dX7_readLineOf_160 : decode cX7_readLineOf 160 = .ok (.iconst 1, 1) := by decide +kernel
theorem dX7_readLineOf_161 : decode cX7_readLineOf 161 = .ok (.iadd, 1) := by decide +kernel
theorem dX7_readLineOf_162 : decode cX7_readLineOf 162 = .ok (.putfield 53, 3) := by decide +kernel
theorem dX7_readLineOf_165 : decode cX7_readLineOf 165 = .ok (.return_, 1) := by decide +kernel
theorem dX7_readLine_0 : decode cX7_readLine 0 = .ok (.aload_n 0, 1) := by decide +kernel
theorem dX7_readLine_1 : decode cX7_readLine 1 = .ok (.getfield 103, 3) := by decide +kernel
theorem dX7_readLine_4 : decode cX7_readLine 4 = .ok (.iconst 1, 1) := by decide +kernel
theorem dX7_readLine_5 : decode cX7_readLine 5 = .ok (.if_icmp .ne 10, 3) := by decide +kernel
theorem dX7_readLine_8 : decode cX7_readLine 8 = .ok (.aload_n 0, 1) := by decide +kernel
theorem dX7_readLine_9 : decode cX7_readLine 9 = .ok (.invokevirtual 138, 3) := by decide +kernel
theorem dX7_readLine_12 : decode cX7_readLine 12 = .ok (.goto 5, 3) := by decide +kernel
theorem dX7_readLine_15 : decode cX7_readLine 15 = .ok (.bipush (-4), 2) := by decide +kernel
theorem dX7_readLine_17 : decode cX7_readLine 17 = .ok (.istore_n 1, 1) := by decide +kernel
theorem dX7_readLine_18 : decode cX7_readLine 18 = .ok (.aload_n 0, 1) := by decide +kernel
theorem dX7_readLine_19 : decode cX7_readLine 19 = .ok (.iload_n 1, 1) := by decide +kernel
theorem dX7_readLine_20 : decode cX7_readLine 20 = .ok (.bipush (-4), 2) := by decide +kernel
theorem dX7_readLine_22 : decode cX7_readLine 22 = .ok (.if_icmp .eq 7, 3) := by decide +kernel
theorem dX7_readLine_25 : decode cX7_readLine 25 = .ok (.iconst 1, 1) := by decide +kernel
theorem dX7_readLine_26 : decode cX7_readLine 26 = .ok (.goto 4, 3) := by decide +kernel
theorem dX7_readLine_29 : decode cX7_readLine 29 = .ok (.iconst 0, 1) := by decide +kernel
theorem dX7_readLine_30 : decode cX7_readLine 30 = .ok (.iconst 2, 1) := by decide +kernel
theorem dX7_readLine_31 : decode cX7_readLine 31 = .ok (.invokevirtual 117, 3) := by decide +kernel
theorem dX7_readLine_34 : decode cX7_readLine 34 = .ok (.aload_n 0, 1) := by decide +kernel
theorem dX7_readLine_35 : decode cX7_readLine 35 = .ok (.iload_n 1, 1) := by decide +kernel
theorem dX7_readLine_36 : decode cX7_readLine 36 = .ok (.bipush 6, 2) := by decide +kernel
theorem dX7_readLine_38 : decode cX7_readLine 38 = .ok (.if_icmp .ne 19, 3) := by decide +kernel
theorem dX7_readLine_41 : decode cX7_readLine 41 = .ok (.aload_n 0, 1) := by decide +kernel
theorem dX7_readLine_42 : decode cX7_readLine 42 = .ok (.getfield 61, 3) := by decide +kernel
theorem dX7_readLine_45 : decode cX7_readLine 45 = .ok (.iconst 4, 1) := by decide +kernel
theorem dX7_readLine_46 : decode cX7_readLine 46 = .ok (.if_icmp .ge 7, 3) := by decide +kernel
theorem dX7_readLine_49 : decode cX7_readLine 49 = .ok (.iconst 1, 1) := by decide +kernel
theorem dX7_readLine_50 : decode cX7_readLine 50 = .ok (.goto 25, 3) := by decide +kernel
theorem dX7_readLine_53 : decode cX7_readLine 53 = .ok (.iconst 0, 1) := by decide +kernel
theorem dX7_readLine_54 : decode cX7_readLine 54 = .ok (.goto 21, 3) := by decide +kernel
theorem dX7_readLine_57 : decode cX7_readLine 57 = .ok (.iload_n 1, 1) := by decide +kernel
theorem dX7_readLine_58 : decode cX7_readLine 58 = .ok (.iconst 4, 1) := by decide +kernel
theorem dX7_readLine_59 : decode cX7_readLine 59 = .ok (.if_icmp .ge 11, 3) := by decide +kernel
theorem dX7_readLine_62 : decode cX7_readLine 62 = .ok (.aload_n 0, 1) := by decide +kernel
theorem dX7_readLine_63 : decode cX7_readLine 63 = .ok (.getfield 53, 3) := by decide +kernel
theorem dX7_readLine_66 : decode cX7_readLine 66 = .ok (.iconst 5, 1) := by decide +kernel
theorem dX7_readLine_67 : decode cX7_readLine 67 = .ok (.if_icmp .ge 7, 3) := by decide +kernel
theorem dX7_readLine_70 : decode cX7_readLine 70 = .ok (.iconst 1, 1) := by decide +kernel
theorem dX7_readLine_71 : decode cX7_readLine 71 = .ok (.goto 4, 3) := by decide +kernel
theorem dX7_readLine_74 : decode cX7_readLine 74 = .ok (.iconst 0, 1) := by decide +kernel
theorem dX7_readLine_75 : decode cX7_readLine 75 = .ok (.iconst 5, 1) := by decide +kernel
theorem dX7_readLine_76 : decode cX7_readLine 76 = .ok (.invokevirtual 117, 3) := by decide +kernel
theorem dX7_readLine_79 : decode cX7_readLine 79 = .ok (.aload_n 0, 1) := by decide +kernel
theorem dX7_readLine_80 : decode cX7_readLine 80 = .ok (.iload_n 1, 1) := by decide +kernel
theorem dX7_readLine_81 : decode cX7_readLine 81 = .ok (.iconst 4, 1) := by decide +kernel
theorem dX7_readLine_82 : decode cX7_readLine 82 = .ok (.if_icmp .ne 10, 3) := by decide +kernel
theorem dX7_readLine_85 : decode cX7_readLine 85 = .ok (.aload_n 0, 1) := by decide +kernel
theorem dX7_readLine_86 : decode cX7_readLine 86 = .ok (.getfield 57, 3) := by decide +kernel
theorem dX7_readLine_89 : decode cX7_readLine 89 = .ok (.ifCond .ne 7, 3) := by decide +kernel
theorem dX7_readLine_92 : decode cX7_readLine 92 = .ok (.iconst 1, 1) := by decide +kernel
theorem dX7_readLine_93 : decode cX7_readLine 93 = .ok (.goto 4, 3) := by decide +kernel
theorem dX7_readLine_96 : decode cX7_readLine 96 = .ok (.iconst 0, 1) := by decide +kernel
theorem dX7_readLine_97 : decode cX7_readLine 97 = .ok (.iconst 4, 1) := by decide +kernel
theorem dX7_readLine_98 : decode cX7_readLine 98 = .ok (.invokevirtual 117, 3) := by decide +kernel
theorem dX7_readLine_101 : decode cX7_readLine 101 = .ok (.aload_n 0, 1) := by decide +kernel
theorem dX7_readLine_102 : decode cX7_readLine 102 = .ok (.aload_n 0, 1) := by decide +kernel
theorem dX7_readLine_103 : decode cX7_readLine 103 = .ok (.getfield 57, 3) := by decide +kernel
theorem dX7_readLine_106 : decode cX7_readLine 106 = .ok (.ifCond .ne 8, 3) := by decide +kernel
theorem dX7_readLine_109 : decode cX7_readLine 109 = .ok (.iload_n 1, 1) := by decide +kernel
theorem dX7_readLine_110 : decode cX7_readLine 110 = .ok (.iconst 4, 1) := by decide +kernel
theorem dX7_readLine_111 : decode cX7_readLine 111 = .ok (.if_icmp .ne 7, 3) := by decide +kernel
theorem dX7_readLine_114 : decode cX7_readLine 114 = .ok (.iconst 1, 1) := by decide +kernel
theorem dX7_readLine_115 : decode cX7_readLine 115 = .ok (.goto 4, 3) := by decide +kernel
theorem dX7_readLine_118 : decode cX7_readLine 118 = .ok (.iconst 0, 1) := by decide +kernel
theorem dX7_readLine_119 : decode cX7_readLine 119 = .ok (.putfield 57, 3) := by decide +kernel
theorem dX7_readLine_122 : decode cX7_readLine 122 = .ok (.aload_n 0, 1) := by decide +kernel
theorem dX7_readLine_123 : decode cX7_readLine 123 = .ok (.invokevirtual 125, 3) := by decide +kernel
theorem dX7_readLine_126 : decode cX7_readLine 126 = .ok (.aload_n 0, 1) := by decide +kernel
theorem dX7_readLine_127 : decode cX7_readLine 127 = .ok (.getfield 79, 3) := by decide +kernel
theorem dX7_readLine_130 : decode cX7_readLine 130 = .ok (.ifCond .le 4, 3) := by decide +kernel
theorem dX7_readLine_133 : decode cX7_readLine 133 = .ok (.return_, 1) := by decide +kernel
theorem dX7_readLine_134 : decode cX7_readLine 134 = .ok (.aload_n 0, 1) := by decide +kernel
theorem dX7_readLine_135 : decode cX7_readLine 135 = .ok (.iload_n 1, 1) := by decide +kernel
theorem dX7_readLine_136 : decode cX7_readLine 136 = .ok (.invokevirtual 141, 3) := by decide +kernel
theorem dX7_readLine_139 : decode cX7_readLine 139 = .ok (.aload_n 0, 1) := by decide +kernel
theorem dX7_readLine_140 : decode cX7_readLine 140 = .ok (.getfield 79, 3) := by decide +kernel
theorem dX7_readLine_143 : decode cX7_readLine 143 = .ok (.ifCond .ne 21, 3) := by decide +kernel
theorem dX7_readLine_146 : decode cX7_readLine 146 = .ok (.aload_n 0, 1) := by decide +kernel
theorem dX7_readLine_147 : decode cX7_readLine 147 = .ok (.aload_n 0, 1) := by decide +kernel
theorem dX7_readLine_148 : decode cX7_readLine 148 = .ok (.getfield 103, 3) := by decide +kernel
theorem dX7_readLine_151 : decode cX7_readLine 151 = .ok (.iconst 3, 1) := by decide +kernel
theorem dX7_readLine_152 : decode cX7_readLine 152 = .ok (.if_icmp .ne 7, 3) := by decide +kernel
theorem dX7_readLine_155 : decode cX7_readLine 155 = .ok (.iconst 1, 1) := by decide +kernel
theorem dX7_readLine_156 : decode cX7_readLine 156 = .ok (.goto 4, 3) := by decide +kernel
theorem dX7_readLine_159 : decode cX7_readLine 159 = .ok (.iconst 0, 1) := by decide +kernel
theorem dX7_readLine_160 : decode cX7_readLine 160 = .ok (.iconst 2, 1) := by decide +kernel
theorem dX7_readLine_161 : decode cX7_readLine 161 = .ok (.invokevirtual 117, 3) := by decide +kernel
theorem dX7_readLine_164 : decode cX7_readLine 164 = .ok (.aload_n 0, 1) := by decide +kernel
theorem dX7_readLine_165 : decode cX7_readLine 165 = .ok (.invokevirtual 125, 3) := by decide +kernel
theorem dX7_readLine_168 : decode cX7_readLine 168 = .ok (.return_, 1) := by decide +kernel
theorem dX7_offersCome_0 : decode cX7_offersCome 0 = .ok (.iconst 0, 1) := by decide +kernel
theorem dX7_offersCome_1 : decode cX7_offersCome 1 = .ok (.istore_n 1, 1) := by decide +kernel
theorem dX7_offersCome_2 : decode cX7_offersCome 2 = .ok (.iload_n 1, 1) := by decide +kernel
theorem dX7_offersCome_3 : decode cX7_offersCome 3 = .ok (.aload_n 0, 1) := by decide +kernel
theorem dX7_offersCome_4 : decode cX7_offersCome 4 = .ok (.getfield 61, 3) := by decide +kernel
theorem dX7_offersCome_7 : decode cX7_offersCome 7 = .ok (.if_icmp .ge 119, 3) := by decide +kernel
theorem dX7_offersCome_10 : decode cX7_offersCome 10 = .ok (.aload_n 0, 1) := by decide +kernel
theorem dX7_offersCome_11 : decode cX7_offersCome 11 = .ok (.getfield 23, 3) := by decide +kernel
theorem dX7_offersCome_14 : decode cX7_offersCome 14 = .ok (.iconst 2, 1) := by decide +kernel
theorem dX7_offersCome_15 : decode cX7_offersCome 15 = .ok (.iload_n 1, 1) := by decide +kernel
theorem dX7_offersCome_16 : decode cX7_offersCome 16 = .ok (.imul, 1) := by decide +kernel
theorem dX7_offersCome_17 : decode cX7_offersCome 17 = .ok (.iaload, 1) := by decide +kernel
theorem dX7_offersCome_18 : decode cX7_offersCome 18 = .ok (.istore_n 2, 1) := by decide +kernel
theorem dX7_offersCome_19 : decode cX7_offersCome 19 = .ok (.aload_n 0, 1) := by decide +kernel
theorem dX7_offersCome_20 : decode cX7_offersCome 20 = .ok (.getfield 23, 3) := by decide +kernel
theorem dX7_offersCome_23 : decode cX7_offersCome 23 = .ok (.iconst 2, 1) := by decide +kernel
theorem dX7_offersCome_24 : decode cX7_offersCome 24 = .ok (.iload_n 1, 1) := by decide +kernel
theorem dX7_offersCome_25 : decode cX7_offersCome 25 = .ok (.imul, 1) := by decide +kernel
theorem dX7_offersCome_26 : decode cX7_offersCome 26 = .ok (.iconst 1, 1) := by decide +kernel
theorem dX7_offersCome_27 : decode cX7_offersCome 27 = .ok (.iadd, 1) := by decide +kernel
theorem dX7_offersCome_28 : decode cX7_offersCome 28 = .ok (.iaload, 1) := by decide +kernel
theorem dX7_offersCome_29 : decode cX7_offersCome 29 = .ok (.istore_n 3, 1) := by decide +kernel
theorem dX7_offersCome_30 : decode cX7_offersCome 30 = .ok (.aload_n 0, 1) := by decide +kernel
theorem dX7_offersCome_31 : decode cX7_offersCome 31 = .ok (.aload_n 0, 1) := by decide +kernel
theorem dX7_offersCome_32 : decode cX7_offersCome 32 = .ok (.getfield 20, 3) := by decide +kernel
theorem dX7_offersCome_35 : decode cX7_offersCome 35 = .ok (.iconst 5, 1) := by decide +kernel
theorem dX7_offersCome_36 : decode cX7_offersCome 36 = .ok (.iload_n 2, 1) := by decide +kernel
theorem dX7_offersCome_37 : decode cX7_offersCome 37 = .ok (.iadd, 1) := by decide +kernel
theorem dX7_offersCome_38 : decode cX7_offersCome 38 = .ok (.iaload, 1) := by decide +kernel
theorem dX7_offersCome_39 : decode cX7_offersCome 39 = .ok (.iload_n 3, 1) := by decide +kernel
theorem dX7_offersCome_40 : decode cX7_offersCome 40 = .ok (.if_icmp .lt 7, 3) := by decide +kernel
theorem dX7_offersCome_43 : decode cX7_offersCome 43 = .ok (.iconst 1, 1) := by decide +kernel
theorem dX7_offersCome_44 : decode cX7_offersCome 44 = .ok (.goto 4, 3) := by decide +kernel
theorem dX7_offersCome_47 : decode cX7_offersCome 47 = .ok (.iconst 0, 1) := by decide +kernel
theorem dX7_offersCome_48 : decode cX7_offersCome 48 = .ok (.bipush 7, 2) := by decide +kernel
theorem dX7_offersCome_50 : decode cX7_offersCome 50 = .ok (.invokevirtual 117, 3) := by decide +kernel
theorem dX7_offersCome_53 : decode cX7_offersCome 53 = .ok (.aload_n 0, 1) := by decide +kernel
theorem dX7_offersCome_54 : decode cX7_offersCome 54 = .ok (.getfield 20, 3) := by decide +kernel
theorem dX7_offersCome_57 : decode cX7_offersCome 57 = .ok (.iconst 5, 1) := by decide +kernel
theorem dX7_offersCome_58 : decode cX7_offersCome 58 = .ok (.iload_n 2, 1) := by decide +kernel
theorem dX7_offersCome_59 : decode cX7_offersCome 59 = .ok (.iadd, 1) := by decide +kernel
theorem dX7_offersCome_60 : decode cX7_offersCome 60 = .ok (.dup2, 1) := by decide +kernel
theorem dX7_offersCome_61 : decode cX7_offersCome 61 = .ok (.iaload, 1) := by decide +kernel
theorem dX7_offersCome_62 : decode cX7_offersCome 62 = .ok (.iload_n 3, 1) := by decide +kernel
theorem dX7_offersCome_63 : decode cX7_offersCome 63 = .ok (.isub, 1) := by decide +kernel
theorem dX7_offersCome_64 : decode cX7_offersCome 64 = .ok (.iastore, 1) := by decide +kernel
theorem dX7_offersCome_65 : decode cX7_offersCome 65 = .ok (.aload_n 0, 1) := by decide +kernel
theorem dX7_offersCome_66 : decode cX7_offersCome 66 = .ok (.getfield 20, 3) := by decide +kernel
theorem dX7_offersCome_69 : decode cX7_offersCome 69 = .ok (.bipush 10, 2) := by decide +kernel
theorem dX7_offersCome_71 : decode cX7_offersCome 71 = .ok (.iload_n 2, 1) := by decide +kernel
theorem dX7_offersCome_72 : decode cX7_offersCome 72 = .ok (.iadd, 1) := by decide +kernel
theorem dX7_offersCome_73 : decode cX7_offersCome 73 = .ok (.dup2, 1) := by decide +kernel
theorem dX7_offersCome_74 : decode cX7_offersCome 74 = .ok (.iaload, 1) := by decide +kernel
theorem dX7_offersCome_75 : decode cX7_offersCome 75 = .ok (.iload_n 3, 1) := by decide +kernel
theorem dX7_offersCome_76 : decode cX7_offersCome 76 = .ok (.iadd, 1) := by decide +kernel
theorem dX7_offersCome_77 : decode cX7_offersCome 77 = .ok (.iastore, 1) := by decide +kernel
theorem dX7_offersCome_78 : decode cX7_offersCome 78 = .ok (.aload_n 0, 1) := by decide +kernel
theorem dX7_offersCome_79 : decode cX7_offersCome 79 = .ok (.getfield 20, 3) := by decide +kernel
theorem dX7_offersCome_82 : decode cX7_offersCome 82 = .ok (.bipush 21, 2) := by decide +kernel
theorem dX7_offersCome_84 : decode cX7_offersCome 84 = .ok (.dup2, 1) := by decide +kernel
theorem dX7_offersCome_85 : decode cX7_offersCome 85 = .ok (.iaload, 1) := by decide +kernel
theorem dX7_offersCome_86 : decode cX7_offersCome 86 = .ok (.iload_n 3, 1) := by decide +kernel
theorem dX7_offersCome_87 : decode cX7_offersCome 87 = .ok (.iadd, 1) := by decide +kernel
theorem dX7_offersCome_88 : decode cX7_offersCome 88 = .ok (.iastore, 1) := by decide +kernel
theorem dX7_offersCome_89 : decode cX7_offersCome 89 = .ok (.aload_n 0, 1) := by decide +kernel
theorem dX7_offersCome_90 : decode cX7_offersCome 90 = .ok (.getfield 20, 3) := by decide +kernel
theorem dX7_offersCome_93 : decode cX7_offersCome 93 = .ok (.bipush 16, 2) := by decide +kernel
theorem dX7_offersCome_95 : decode cX7_offersCome 95 = .ok (.aload_n 0, 1) := by decide +kernel
theorem dX7_offersCome_96 : decode cX7_offersCome 96 = .ok (.getfield 20, 3) := by decide +kernel
theorem dX7_offersCome_99 : decode cX7_offersCome 99 = .ok (.bipush 16, 2) := by decide +kernel
theorem dX7_offersCome_101 : decode cX7_offersCome 101 = .ok (.iaload, 1) := by decide +kernel
theorem dX7_offersCome_102 : decode cX7_offersCome 102 = .ok (.iload_n 3, 1) := by decide +kernel
theorem dX7_offersCome_103 : decode cX7_offersCome 103 = .ok (.if_icmp .le 15, 3) := by decide +kernel
theorem dX7_offersCome_106 : decode cX7_offersCome 106 = .ok (.aload_n 0, 1) := by decide +kernel
theorem dX7_offersCome_107 : decode cX7_offersCome 107 = .ok (.getfield 20, 3) := by decide +kernel
theorem dX7_offersCome_110 : decode cX7_offersCome 110 = .ok (.bipush 16, 2) := by decide +kernel
theorem dX7_offersCome_112 : decode cX7_offersCome 112 = .ok (.iaload, 1) := by decide +kernel
theorem dX7_offersCome_113 : decode cX7_offersCome 113 = .ok (.iload_n 3, 1) := by decide +kernel
theorem dX7_offersCome_114 : decode cX7_offersCome 114 = .ok (.isub, 1) := by decide +kernel
theorem dX7_offersCome_115 : decode cX7_offersCome 115 = .ok (.goto 4, 3) := by decide +kernel
theorem dX7_offersCome_118 : decode cX7_offersCome 118 = .ok (.iconst 0, 1) := by decide +kernel
theorem dX7_offersCome_119 : decode cX7_offersCome 119 = .ok (.iastore, 1) := by decide +kernel
theorem dX7_offersCome_120 : decode cX7_offersCome 120 = .ok (.iinc 1 1, 3) := by decide +kernel
theorem dX7_offersCome_123 : decode cX7_offersCome 123 = .ok (.goto (-121), 3) := by decide +kernel
theorem dX7_offersCome_126 : decode cX7_offersCome 126 = .ok (.return_, 1) := by decide +kernel
theorem dX7_text_0 : decode cX7_text 0 = .ok (.iconst 0, 1) := by decide +kernel
theorem dX7_text_1 : decode cX7_text 1 = .ok (.istore_n 1, 1) := by decide +kernel
theorem dX7_text_2 : decode cX7_text 2 = .ok (.aload_n 0, 1) := by decide +kernel
theorem dX7_text_3 : decode cX7_text 3 = .ok (.iconst 0, 1) := by decide +kernel
theorem dX7_text_4 : decode cX7_text 4 = .ok (.putfield 79, 3) := by decide +kernel
theorem dX7_text_7 : decode cX7_text 7 = .ok (.aload_n 0, 1) := by decide +kernel
theorem dX7_text_8 : decode cX7_text 8 = .ok (.iconst 0, 1) := by decide +kernel
theorem dX7_text_9 : decode cX7_text 9 = .ok (.putfield 88, 3) := by decide +kernel
theorem dX7_text_12 : decode cX7_text 12 = .ok (.aload_n 0, 1) := by decide +kernel
theorem dX7_text_13 : decode cX7_text 13 = .ok (.invokevirtual 47, 3) := by decide +kernel
theorem dX7_text_16 : decode cX7_text 16 = .ok (.aload_n 0, 1) := by decide +kernel
theorem dX7_text_17 : decode cX7_text 17 = .ok (.invokevirtual 125, 3) := by decide +kernel
theorem dX7_text_20 : decode cX7_text 20 = .ok (.aload_n 0, 1) := by decide +kernel
theorem dX7_text_21 : decode cX7_text 21 = .ok (.getfield 79, 3) := by decide +kernel
theorem dX7_text_24 : decode cX7_text 24 = .ok (.ifCond .ne 20, 3) := by decide +kernel
theorem dX7_text_27 : decode cX7_text 27 = .ok (.aload_n 0, 1) := by decide +kernel
theorem dX7_text_28 : decode cX7_text 28 = .ok (.getfield 103, 3) := by decide +kernel
theorem dX7_text_31 : decode cX7_text 31 = .ok (.ifCond .eq 13, 3) := by decide +kernel
theorem dX7_text_34 : decode cX7_text 34 = .ok (.aload_n 0, 1) := by decide +kernel
theorem dX7_text_35 : decode cX7_text 35 = .ok (.invokevirtual 145, 3) := by decide +kernel
theorem dX7_text_38 : decode cX7_text 38 = .ok (.iinc 1 1, 3) := by decide +kernel
theorem dX7_text_41 : decode cX7_text 41 = .ok (.goto (-21), 3) := by decide +kernel
theorem dX7_text_44 : decode cX7_text 44 = .ok (.aload_n 0, 1) := by decide +kernel
theorem dX7_text_45 : decode cX7_text 45 = .ok (.getfield 79, 3) := by decide +kernel
theorem dX7_text_48 : decode cX7_text 48 = .ok (.ifCond .ne 25, 3) := by decide +kernel
theorem dX7_text_51 : decode cX7_text 51 = .ok (.aload_n 0, 1) := by decide +kernel
theorem dX7_text_52 : decode cX7_text 52 = .ok (.aload_n 0, 1) := by decide +kernel
theorem dX7_text_53 : decode cX7_text 53 = .ok (.getfield 64, 3) := by decide +kernel
theorem dX7_text_56 : decode cX7_text 56 = .ok (.aload_n 0, 1) := by decide +kernel
theorem dX7_text_57 : decode cX7_text 57 = .ok (.getfield 53, 3) := by decide +kernel
theorem dX7_text_60 : decode cX7_text 60 = .ok (.if_icmp .ge 7, 3) := by decide +kernel
theorem dX7_text_63 : decode cX7_text 63 = .ok (.iconst 1, 1) := by decide +kernel
theorem dX7_text_64 : decode cX7_text 64 = .ok (.goto 4, 3) := by decide +kernel
theorem dX7_text_67 : decode cX7_text 67 = .ok (.iconst 0, 1) := by decide +kernel
theorem dX7_text_68 : decode cX7_text 68 = .ok (.bipush 6, 2) := by decide +kernel
theorem dX7_text_70 : decode cX7_text 70 = .ok (.invokevirtual 117, 3) := by decide +kernel
theorem dX7_text_73 : decode cX7_text 73 = .ok (.aload_n 0, 1) := by decide +kernel
theorem dX7_text_74 : decode cX7_text 74 = .ok (.getfield 79, 3) := by decide +kernel
theorem dX7_text_77 : decode cX7_text 77 = .ok (.ifCond .ne 7, 3) := by decide +kernel
theorem dX7_text_80 : decode cX7_text 80 = .ok (.aload_n 0, 1) := by decide +kernel
theorem dX7_text_81 : decode cX7_text 81 = .ok (.invokevirtual 148, 3) := by decide +kernel
theorem dX7_text_84 : decode cX7_text 84 = .ok (.aload_n 0, 1) := by decide +kernel
theorem dX7_text_85 : decode cX7_text 85 = .ok (.iconst 0, 1) := by decide +kernel
theorem dX7_text_86 : decode cX7_text 86 = .ok (.putfield 76, 3) := by decide +kernel
theorem dX7_text_89 : decode cX7_text 89 = .ok (.aload_n 0, 1) := by decide +kernel
theorem dX7_text_90 : decode cX7_text 90 = .ok (.getfield 79, 3) := by decide +kernel
theorem dX7_text_93 : decode cX7_text 93 = .ok (.ifCond .le 11, 3) := by decide +kernel
theorem dX7_text_96 : decode cX7_text 96 = .ok (.bipush (-10), 2) := by decide +kernel
theorem dX7_text_98 : decode cX7_text 98 = .ok (.aload_n 0, 1) := by decide +kernel
theorem dX7_text_99 : decode cX7_text 99 = .ok (.getfield 85, 3) := by decide +kernel
theorem dX7_text_102 : decode cX7_text 102 = .ok (.isub, 1) := by decide +kernel
theorem dX7_text_103 : decode cX7_text 103 = .ok (.ireturn, 1) := by decide +kernel
theorem dX7_text_104 : decode cX7_text 104 = .ok (.aload_n 0, 1) := by decide +kernel
theorem dX7_text_105 : decode cX7_text 105 = .ok (.invokevirtual 50, 3) := by decide +kernel
theorem dX7_text_108 : decode cX7_text 108 = .ok (.iload_n 1, 1) := by decide +kernel
theorem dX7_text_109 : decode cX7_text 109 = .ok (.ireturn, 1) := by decide +kernel
theorem dX7_fault_0 : decode cX7_fault 0 = .ok (.aload_n 0, 1) := by decide +kernel
theorem dX7_fault_1 : decode cX7_fault 1 = .ok (.getfield 79, 3) := by decide +kernel
theorem dX7_fault_4 : decode cX7_fault 4 = .ok (.ireturn, 1) := by decide +kernel
theorem dX7_isHouse_0 : decode cX7_isHouse 0 = .ok (.iload_n 1, 1) := by decide +kernel
theorem dX7_isHouse_1 : decode cX7_isHouse 1 = .ok (.i2l, 1) := by decide +kernel
theorem dX7_isHouse_2 : decode cX7_isHouse 2 = .ok (.lconst 0, 1) := by decide +kernel
theorem dX7_isHouse_3 : decode cX7_isHouse 3 = .ok (.aload_n 0, 1) := by decide +kernel
theorem dX7_isHouse_4 : decode cX7_isHouse 4 = .ok (.getfield 67, 3) := by decide +kernel
theorem dX7_isHouse_7 : decode cX7_isHouse 7 = .ok (.iconst 1, 1) := by decide +kernel
theorem dX7_isHouse_8 : decode cX7_isHouse 8 = .ok (.isub, 1) := by decide +kernel
theorem dX7_isHouse_9 : decode cX7_isHouse 9 = .ok (.i2l, 1) := by decide +kernel
theorem dX7_isHouse_10 : decode cX7_isHouse 10 = .ok (.invokestatic 72, 3) := by decide +kernel
theorem dX7_isHouse_13 : decode cX7_isHouse 13 = .ok (.ireturn, 1) := by decide +kernel
theorem dX7_isPart_0 : decode cX7_isPart 0 = .ok (.iload_n 0, 1) := by decide +kernel
theorem dX7_isPart_1 : decode cX7_isPart 1 = .ok (.i2l, 1) := by decide +kernel
theorem dX7_isPart_2 : decode cX7_isPart 2 = .ok (.lconst 0, 1) := by decide +kernel
theorem dX7_isPart_3 : decode cX7_isPart 3 = .ok (.lconst 1, 1) := by decide +kernel
theorem dX7_isPart_4 : decode cX7_isPart 4 = .ok (.invokestatic 72, 3) := by decide +kernel
theorem dX7_isPart_7 : decode cX7_isPart 7 = .ok (.ireturn, 1) := by decide +kernel
theorem dX7_starts_0 : decode cX7_starts 0 = .ok (.iconst 0, 1) := by decide +kernel
theorem dX7_starts_1 : decode cX7_starts 1 = .ok (.istore_n 1, 1) := by decide +kernel
theorem dX7_starts_2 : decode cX7_starts 2 = .ok (.iload_n 1, 1) := by decide +kernel
theorem dX7_starts_3 : decode cX7_starts 3 = .ok (.bipush 41, 2) := by decide +kernel
theorem dX7_starts_5 : decode cX7_starts 5 = .ok (.if_icmp .ge 21, 3) := by decide +kernel
theorem dX7_starts_8 : decode cX7_starts 8 = .ok (.aload_n 0, 1) := by decide +kernel
theorem dX7_starts_9 : decode cX7_starts 9 = .ok (.getfield 13, 3) := by decide +kernel
theorem dX7_starts_12 : decode cX7_starts 12 = .ok (.iload_n 1, 1) := by decide +kernel
theorem dX7_starts_13 : decode cX7_starts 13 = .ok (.aload_n 0, 1) := by decide +kernel
theorem dX7_starts_14 : decode cX7_starts 14 = .ok (.getfield 7, 3) := by decide +kernel
theorem dX7_starts_17 : decode cX7_starts 17 = .ok (.iload_n 1, 1) := by decide +kernel
theorem dX7_starts_18 : decode cX7_starts 18 = .ok (.iaload, 1) := by decide +kernel
theorem dX7_starts_19 : decode cX7_starts 19 = .ok (.iastore, 1) := by decide +kernel
theorem dX7_starts_20 : decode cX7_starts 20 = .ok (.iinc 1 1, 3) := by decide +kernel
theorem dX7_starts_23 : decode cX7_starts 23 = .ok (.goto (-21), 3) := by decide +kernel
theorem dX7_starts_26 : decode cX7_starts 26 = .ok (.return_, 1) := by decide +kernel
theorem dX7_settles_0 : decode cX7_settles 0 = .ok (.iconst 0, 1) := by decide +kernel
theorem dX7_settles_1 : decode cX7_settles 1 = .ok (.istore_n 1, 1) := by decide +kernel
theorem dX7_settles_2 : decode cX7_settles 2 = .ok (.iload_n 1, 1) := by decide +kernel
theorem dX7_settles_3 : decode cX7_settles 3 = .ok (.bipush 41, 2) := by decide +kernel
theorem dX7_settles_5 : decode cX7_settles 5 = .ok (.if_icmp .ge 21, 3) := by decide +kernel
theorem dX7_settles_8 : decode cX7_settles 8 = .ok (.aload_n 0, 1) := by decide +kernel
theorem dX7_settles_9 : decode cX7_settles 9 = .ok (.getfield 7, 3) := by decide +kernel
theorem dX7_settles_12 : decode cX7_settles 12 = .ok (.iload_n 1, 1) := by decide +kernel
theorem dX7_settles_13 : decode cX7_settles 13 = .ok (.aload_n 0, 1) := by decide +kernel
theorem dX7_settles_14 : decode cX7_settles 14 = .ok (.getfield 13, 3) := by decide +kernel
theorem dX7_settles_17 : decode cX7_settles 17 = .ok (.iload_n 1, 1) := by decide +kernel
theorem dX7_settles_18 : decode cX7_settles 18 = .ok (.iaload, 1) := by decide +kernel
theorem dX7_settles_19 : decode cX7_settles 19 = .ok (.iastore, 1) := by decide +kernel
theorem dX7_settles_20 : decode cX7_settles 20 = .ok (.iinc 1 1, 3) := by decide +kernel
theorem dX7_settles_23 : decode cX7_settles 23 = .ok (.goto (-21), 3) := by decide +kernel
theorem dX7_settles_26 : decode cX7_settles 26 = .ok (.return_, 1) := by decide +kernel
theorem dX7_lesser_0 : decode cX7_lesser 0 = .ok (.iload_n 0, 1) := by decide +kernel
theorem dX7_lesser_1 : decode cX7_lesser 1 = .ok (.iload_n 1, 1) := by decide +kernel
theorem dX7_lesser_2 : decode cX7_lesser 2 = .ok (.if_icmp .ge 7, 3) := by decide +kernel
theorem dX7_lesser_5 : decode cX7_lesser 5 = .ok (.iload_n 0, 1) := by decide +kernel
theorem dX7_lesser_6 : decode cX7_lesser 6 = .ok (.goto 4, 3) := by decide +kernel
theorem dX7_lesser_9 : decode cX7_lesser 9 = .ok (.iload_n 1, 1) := by decide +kernel
theorem dX7_lesser_10 : decode cX7_lesser 10 = .ok (.ireturn, 1) := by decide +kernel
theorem dX7_burns_0 : decode cX7_burns 0 = .ok (.iload_n 2, 1) := by decide +kernel
theorem dX7_burns_1 : decode cX7_burns 1 = .ok (.aload_n 0, 1) := by decide +kernel
theorem dX7_burns_2 : decode cX7_burns 2 = .ok (.getfield 13, 3) := by decide +kernel
theorem dX7_burns_5 : decode cX7_burns 5 = .ok (.iconst 5, 1) := by decide +kernel
theorem dX7_burns_6 : decode cX7_burns 6 = .ok (.iload_n 1, 1) := by decide +kernel
theorem dX7_burns_7 : decode cX7_burns 7 = .ok (.iadd, 1) := by decide +kernel
theorem dX7_burns_8 : decode cX7_burns 8 = .ok (.iaload, 1) := by decide +kernel
theorem dX7_burns_9 : decode cX7_burns 9 = .ok (.invokestatic 151, 3) := by decide +kernel
theorem dX7_burns_12 : decode cX7_burns 12 = .ok (.istore_n 3, 1) := by decide +kernel
theorem dX7_burns_13 : decode cX7_burns 13 = .ok (.aload_n 0, 1) := by decide +kernel
theorem dX7_burns_14 : decode cX7_burns 14 = .ok (.getfield 13, 3) := by decide +kernel
theorem dX7_burns_17 : decode cX7_burns 17 = .ok (.iconst 5, 1) := by decide +kernel
theorem dX7_burns_18 : decode cX7_burns 18 = .ok (.iload_n 1, 1) := by decide +kernel
theorem dX7_burns_19 : decode cX7_burns 19 = .ok (.iadd, 1) := by decide +kernel
theorem dX7_burns_20 : decode cX7_burns 20 = .ok (.dup2, 1) := by decide +kernel
theorem dX7_burns_21 : decode cX7_burns 21 = .ok (.iaload, 1) := by decide +kernel
theorem dX7_burns_22 : decode cX7_burns 22 = .ok (.iload_n 3, 1) := by decide +kernel
theorem dX7_burns_23 : decode cX7_burns 23 = .ok (.isub, 1) := by decide +kernel
theorem dX7_burns_24 : decode cX7_burns 24 = .ok (.iastore, 1) := by decide +kernel
theorem dX7_burns_25 : decode cX7_burns 25 = .ok (.aload_n 0, 1) := by decide +kernel
theorem dX7_burns_26 : decode cX7_burns 26 = .ok (.getfield 13, 3) := by decide +kernel
theorem dX7_burns_29 : decode cX7_burns 29 = .ok (.bipush 10, 2) := by decide +kernel
theorem dX7_burns_31 : decode cX7_burns 31 = .ok (.iload_n 1, 1) := by decide +kernel
theorem dX7_burns_32 : decode cX7_burns 32 = .ok (.iadd, 1) := by decide +kernel
theorem dX7_burns_33 : decode cX7_burns 33 = .ok (.dup2, 1) := by decide +kernel
theorem dX7_burns_34 : decode cX7_burns 34 = .ok (.iaload, 1) := by decide +kernel
theorem dX7_burns_35 : decode cX7_burns 35 = .ok (.iload_n 3, 1) := by decide +kernel
theorem dX7_burns_36 : decode cX7_burns 36 = .ok (.iadd, 1) := by decide +kernel
theorem dX7_burns_37 : decode cX7_burns 37 = .ok (.iastore, 1) := by decide +kernel
theorem dX7_burns_38 : decode cX7_burns 38 = .ok (.aload_n 0, 1) := by decide +kernel
theorem dX7_burns_39 : decode cX7_burns 39 = .ok (.getfield 13, 3) := by decide +kernel
theorem dX7_burns_42 : decode cX7_burns 42 = .ok (.bipush 20, 2) := by decide +kernel
theorem dX7_burns_44 : decode cX7_burns 44 = .ok (.dup2, 1) := by decide +kernel
theorem dX7_burns_45 : decode cX7_burns 45 = .ok (.iaload, 1) := by decide +kernel
theorem dX7_burns_46 : decode cX7_burns 46 = .ok (.iload_n 3, 1) := by decide +kernel
theorem dX7_burns_47 : decode cX7_burns 47 = .ok (.iadd, 1) := by decide +kernel
theorem dX7_burns_48 : decode cX7_burns 48 = .ok (.iastore, 1) := by decide +kernel
theorem dX7_burns_49 : decode cX7_burns 49 = .ok (.iload_n 3, 1) := by decide +kernel
theorem dX7_burns_50 : decode cX7_burns 50 = .ok (.ireturn, 1) := by decide +kernel
theorem dX7_gives_0 : decode cX7_gives 0 = .ok (.aload_n 0, 1) := by decide +kernel
theorem dX7_gives_1 : decode cX7_gives 1 = .ok (.getfield 13, 3) := by decide +kernel
theorem dX7_gives_4 : decode cX7_gives 4 = .ok (.iconst 5, 1) := by decide +kernel
theorem dX7_gives_5 : decode cX7_gives 5 = .ok (.iload_n 1, 1) := by decide +kernel
theorem dX7_gives_6 : decode cX7_gives 6 = .ok (.iadd, 1) := by decide +kernel
theorem dX7_gives_7 : decode cX7_gives 7 = .ok (.dup2, 1) := by decide +kernel
theorem dX7_gives_8 : decode cX7_gives 8 = .ok (.iaload, 1) := by decide +kernel
theorem dX7_gives_9 : decode cX7_gives 9 = .ok (.iload_n 2, 1) := by decide +kernel
theorem dX7_gives_10 : decode cX7_gives 10 = .ok (.isub, 1) := by decide +kernel
theorem dX7_gives_11 : decode cX7_gives 11 = .ok (.iastore, 1) := by decide +kernel
theorem dX7_gives_12 : decode cX7_gives 12 = .ok (.aload_n 0, 1) := by decide +kernel
theorem dX7_gives_13 : decode cX7_gives 13 = .ok (.getfield 13, 3) := by decide +kernel
theorem dX7_gives_16 : decode cX7_gives 16 = .ok (.bipush 10, 2) := by decide +kernel
theorem dX7_gives_18 : decode cX7_gives 18 = .ok (.iload_n 1, 1) := by decide +kernel
theorem dX7_gives_19 : decode cX7_gives 19 = .ok (.iadd, 1) := by decide +kernel
theorem dX7_gives_20 : decode cX7_gives 20 = .ok (.dup2, 1) := by decide +kernel
theorem dX7_gives_21 : decode cX7_gives 21 = .ok (.iaload, 1) := by decide +kernel
theorem dX7_gives_22 : decode cX7_gives 22 = .ok (.iload_n 2, 1) := by decide +kernel
theorem dX7_gives_23 : decode cX7_gives 23 = .ok (.iadd, 1) := by decide +kernel
theorem dX7_gives_24 : decode cX7_gives 24 = .ok (.iastore, 1) := by decide +kernel
theorem dX7_gives_25 : decode cX7_gives 25 = .ok (.aload_n 0, 1) := by decide +kernel
theorem dX7_gives_26 : decode cX7_gives 26 = .ok (.getfield 13, 3) := by decide +kernel
theorem dX7_gives_29 : decode cX7_gives 29 = .ok (.bipush 21, 2) := by decide +kernel
theorem dX7_gives_31 : decode cX7_gives 31 = .ok (.dup2, 1) := by decide +kernel
theorem dX7_gives_32 : decode cX7_gives 32 = .ok (.iaload, 1) := by decide +kernel
theorem dX7_gives_33 : decode cX7_gives 33 = .ok (.iload_n 2, 1) := by decide +kernel
theorem dX7_gives_34 : decode cX7_gives 34 = .ok (.iadd, 1) := by decide +kernel
theorem dX7_gives_35 : decode cX7_gives 35 = .ok (.iastore, 1) := by decide +kernel
theorem dX7_gives_36 : decode cX7_gives 36 = .ok (.aload_n 0, 1) := by decide +kernel
theorem dX7_gives_37 : decode cX7_gives 37 = .ok (.getfield 13, 3) := by decide +kernel
theorem dX7_gives_40 : decode cX7_gives 40 = .ok (.bipush 16, 2) := by decide +kernel
theorem dX7_gives_42 : decode cX7_gives 42 = .ok (.aload_n 0, 1) := by decide +kernel
theorem dX7_gives_43 : decode cX7_gives 43 = .ok (.getfield 13, 3) := by decide +kernel
theorem dX7_gives_46 : decode cX7_gives 46 = .ok (.bipush 16, 2) := by decide +kernel
theorem dX7_gives_48 : decode cX7_gives 48 = .ok (.iaload, 1) := by decide +kernel
theorem dX7_gives_49 : decode cX7_gives 49 = .ok (.iload_n 2, 1) := by decide +kernel
theorem dX7_gives_50 : decode cX7_gives 50 = .ok (.if_icmp .le 15, 3) := by decide +kernel
theorem dX7_gives_53 : decode cX7_gives 53 = .ok (.aload_n 0, 1) := by decide +kernel
theorem dX7_gives_54 : decode cX7_gives 54 = .ok (.getfield 13, 3) := by decide +kernel
theorem dX7_gives_57 : decode cX7_gives 57 = .ok (.bipush 16, 2) := by decide +kernel
theorem dX7_gives_59 : decode cX7_gives 59 = .ok (.iaload, 1) := by decide +kernel
theorem dX7_gives_60 : decode cX7_gives 60 = .ok (.iload_n 2, 1) := by decide +kernel
theorem dX7_gives_61 : decode cX7_gives 61 = .ok (.isub, 1) := by decide +kernel
theorem dX7_gives_62 : decode cX7_gives 62 = .ok (.goto 4, 3) := by decide +kernel
theorem dX7_gives_65 : decode cX7_gives 65 = .ok (.iconst 0, 1) := by decide +kernel
theorem dX7_gives_66 : decode cX7_gives 66 = .ok (.iastore, 1) := by decide +kernel
theorem dX7_gives_67 : decode cX7_gives 67 = .ok (.return_, 1) := by decide +kernel
theorem dX7_asks_0 : decode cX7_asks 0 = .ok (.aload_n 0, 1) := by decide +kernel
theorem dX7_asks_1 : decode cX7_asks 1 = .ok (.getfield 13, 3) := by decide +kernel
theorem dX7_asks_4 : decode cX7_asks 4 = .ok (.bipush 15, 2) := by decide +kernel
theorem dX7_asks_6 : decode cX7_asks 6 = .ok (.iaload, 1) := by decide +kernel
theorem dX7_asks_7 : decode cX7_asks 7 = .ok (.istore_n 1, 1) := by decide +kernel
theorem dX7_asks_8 : decode cX7_asks 8 = .ok (.iload_n 1, 1) := by decide +kernel
theorem dX7_asks_9 : decode cX7_asks 9 = .ok (.iconst 1, 1) := by decide +kernel
theorem dX7_asks_10 : decode cX7_asks 10 = .ok (.iadd, 1) := by decide +kernel
theorem dX7_asks_11 : decode cX7_asks 11 = .ok (.aload_n 0, 1) := by decide +kernel
theorem dX7_asks_12 : decode cX7_asks 12 = .ok (.getfield 67, 3) := by decide +kernel
theorem dX7_asks_15 : decode cX7_asks 15 = .ok (.irem, 1) := by decide +kernel
theorem dX7_asks_16 : decode cX7_asks 16 = .ok (.istore_n 2, 1) := by decide +kernel
theorem dX7_asks_17 : decode cX7_asks 17 = .ok (.aload_n 0, 1) := by decide +kernel
theorem dX7_asks_18 : decode cX7_asks 18 = .ok (.getfield 13, 3) := by decide +kernel
theorem dX7_asks_21 : decode cX7_asks 21 = .ok (.iconst 0, 1) := by decide +kernel
theorem dX7_asks_22 : decode cX7_asks 22 = .ok (.iload_n 1, 1) := by decide +kernel
theorem dX7_asks_23 : decode cX7_asks 23 = .ok (.iadd, 1) := by decide +kernel
theorem dX7_asks_24 : decode cX7_asks 24 = .ok (.iaload, 1) := by decide +kernel
theorem dX7_asks_25 : decode cX7_asks 25 = .ok (.istore_n 3, 1) := by decide +kernel
theorem dX7_asks_26 : decode cX7_asks 26 = .ok (.iload_n 3, 1) := by decide +kernel
theorem dX7_asks_27 : decode cX7_asks 27 = .ok (.iconst 1, 1) := by decide +kernel
theorem dX7_asks_28 : decode cX7_asks 28 = .ok (.if_icmp .ne 40, 3) := by decide +kernel
theorem dX7_asks_31 : decode cX7_asks 31 = .ok (.aload_n 0, 1) := by decide +kernel
theorem dX7_asks_32 : decode cX7_asks 32 = .ok (.getfield 13, 3) := by decide +kernel
theorem dX7_asks_35 : decode cX7_asks 35 = .ok (.bipush 17, 2) := by decide +kernel
theorem dX7_asks_37 : decode cX7_asks 37 = .ok (.bipush 9, 2) := by decide +kernel
theorem dX7_asks_39 : decode cX7_asks 39 = .ok (.aload_n 0, 1) := by decide +kernel
theorem dX7_asks_40 : decode cX7_asks 40 = .ok (.getfield 13, 3) := by decide +kernel
theorem dX7_asks_43 : decode cX7_asks 43 = .ok (.bipush 17, 2) := by decide +kernel
theorem dX7_asks_45 : decode cX7_asks 45 = .ok (.iaload, 1) := by decide +kernel
theorem dX7_asks_46 : decode cX7_asks 46 = .ok (.iconst 1, 1) := by decide +kernel
theorem dX7_asks_47 : decode cX7_asks 47 = .ok (.iadd, 1) := by decide +kernel
theorem dX7_asks_48 : decode cX7_asks 48 = .ok (.invokestatic 151, 3) := by decide +kernel
theorem dX7_asks_51 : decode cX7_asks 51 = .ok (.iastore, 1) := by decide +kernel
theorem dX7_asks_52 : decode cX7_asks 52 = .ok (.aload_n 0, 1) := by decide +kernel
theorem dX7_asks_53 : decode cX7_asks 53 = .ok (.iload_n 2, 1) := by decide +kernel
theorem dX7_asks_54 : decode cX7_asks 54 = .ok (.aload_n 0, 1) := by decide +kernel
theorem dX7_asks_55 : decode cX7_asks 55 = .ok (.getfield 13, 3) := by decide +kernel
theorem dX7_asks_58 : decode cX7_asks 58 = .ok (.bipush 17, 2) := by decide +kernel
theorem dX7_asks_60 : decode cX7_asks 60 = .ok (.iaload, 1) := by decide +kernel
theorem dX7_asks_61 : decode cX7_asks 61 = .ok (.invokevirtual 154, 3) := by decide +kernel
theorem dX7_asks_64 : decode cX7_asks 64 = .ok (.pop, 1) := by decide +kernel
theorem dX7_asks_65 : decode cX7_asks 65 = .ok (.goto 109, 3) := by decide +kernel
theorem dX7_asks_68 : decode cX7_asks 68 = .ok (.iload_n 3, 1) := by decide +kernel
theorem dX7_asks_69 : decode cX7_asks 69 = .ok (.iconst 2, 1) := by decide +kernel
theorem dX7_asks_70 : decode cX7_asks 70 = .ok (.if_icmp .ne 28, 3) := by decide +kernel
theorem dX7_asks_73 : decode cX7_asks 73 = .ok (.aload_n 0, 1) := by decide +kernel
theorem dX7_asks_74 : decode cX7_asks 74 = .ok (.getfield 13, 3) := by decide +kernel
theorem dX7_asks_77 : decode cX7_asks 77 = .ok (.bipush 16, 2) := by decide +kernel
theorem dX7_asks_79 : decode cX7_asks 79 = .ok (.dup2, 1) := by decide +kernel
theorem dX7_asks_80 : decode cX7_asks 80 = .ok (.iaload, 1) := by decide +kernel
theorem dX7_asks_81 : decode cX7_asks 81 = .ok (.aload_n 0, 1) := by decide +kernel
theorem dX7_asks_82 : decode cX7_asks 82 = .ok (.iload_n 1, 1) := by decide +kernel
theorem dX7_asks_83 : decode cX7_asks 83 = .ok (.aload_n 0, 1) := by decide +kernel
theorem dX7_asks_84 : decode cX7_asks 84 = .ok (.getfield 13, 3) := by decide +kernel
theorem dX7_asks_87 : decode cX7_asks 87 = .ok (.bipush 16, 2) := by decide +kernel
theorem dX7_asks_89 : decode cX7_asks 89 = .ok (.iaload, 1) := by decide +kernel
theorem dX7_asks_90 : decode cX7_asks 90 = .ok (.invokevirtual 154, 3) := by decide +kernel
theorem dX7_asks_93 : decode cX7_asks 93 = .ok (.isub, 1) := by decide +kernel
theorem dX7_asks_94 : decode cX7_asks 94 = .ok (.iastore, 1) := by decide +kernel
theorem dX7_asks_95 : decode cX7_asks 95 = .ok (.goto 79, 3) := by decide +kernel
theorem dX7_asks_98 : decode cX7_asks 98 = .ok (.iload_n 3, 1) := by decide +kernel
theorem dX7_asks_99 : decode cX7_asks 99 = .ok (.iconst 3, 1) := by decide +kernel
theorem dX7_asks_100 : decode cX7_asks 100 = .ok (.if_icmp .ne 53, 3) := by decide +kernel
theorem dX7_asks_103 : decode cX7_asks 103 = .ok (.aload_n 0, 1) := by decide +kernel
theorem dX7_asks_104 : decode cX7_asks 104 = .ok (.getfield 13, 3) := by decide +kernel
theorem dX7_asks_107 : decode cX7_asks 107 = .ok (.iconst 5, 1) := by decide +kernel
theorem dX7_asks_108 : decode cX7_asks 108 = .ok (.iload_n 1, 1) := by decide +kernel
theorem dX7_asks_109 : decode cX7_asks 109 = .ok (.iadd, 1) := by decide +kernel
theorem dX7_asks_110 : decode cX7_asks 110 = .ok (.iaload, 1) := by decide +kernel
theorem dX7_asks_111 : decode cX7_asks 111 = .ok (.ifCond .le 42, 3) := by decide +kernel
theorem dX7_asks_114 : decode cX7_asks 114 = .ok (.aload_n 0, 1) := by decide +kernel
theorem dX7_asks_115 : decode cX7_asks 115 = .ok (.iload_n 1, 1) := by decide +kernel
theorem dX7_asks_116 : decode cX7_asks 116 = .ok (.iconst 1, 1) := by decide +kernel
theorem dX7_asks_117 : decode cX7_asks 117 = .ok (.invokevirtual 157, 3) := by decide +kernel
theorem dX7_asks_120 : decode cX7_asks 120 = .ok (.aload_n 0, 1) := by decide +kernel
theorem dX7_asks_121 : decode cX7_asks 121 = .ok (.getfield 13, 3) := by decide +kernel
theorem dX7_asks_124 : decode cX7_asks 124 = .ok (.bipush 17, 2) := by decide +kernel
theorem dX7_asks_126 : decode cX7_asks 126 = .ok (.aload_n 0, 1) := by decide +kernel
theorem dX7_asks_127 : decode cX7_asks 127 = .ok (.getfield 13, 3) := by decide +kernel
theorem dX7_asks_130 : decode cX7_asks 130 = .ok (.bipush 17, 2) := by decide +kernel
theorem dX7_asks_132 : decode cX7_asks 132 = .ok (.iaload, 1) := by decide +kernel
theorem dX7_asks_133 : decode cX7_asks 133 = .ok (.ifCond .le 15, 3) := by decide +kernel
theorem dX7_asks_136 : decode cX7_asks 136 = .ok (.aload_n 0, 1) := by decide +kernel
theorem dX7_asks_137 : decode cX7_asks 137 = .ok (.getfield 13, 3) := by decide +kernel
theorem dX7_asks_140 : decode cX7_asks 140 = .ok (.bipush 17, 2) := by decide +kernel
theorem dX7_asks_142 : decode cX7_asks 142 = .ok (.iaload, 1) := by decide +kernel
theorem dX7_asks_143 : decode cX7_asks 143 = .ok (.iconst 1, 1) := by decide +kernel
theorem dX7_asks_144 : decode cX7_asks 144 = .ok (.isub, 1) := by decide +kernel
theorem dX7_asks_145 : decode cX7_asks 145 = .ok (.goto 4, 3) := by decide +kernel
theorem dX7_asks_148 : decode cX7_asks 148 = .ok (.iconst 0, 1) := by decide +kernel
theorem dX7_asks_149 : decode cX7_asks 149 = .ok (.iastore, 1) := by decide +kernel
theorem dX7_asks_150 : decode cX7_asks 150 = .ok (.goto 24, 3) := by decide +kernel
theorem dX7_asks_153 : decode cX7_asks 153 = .ok (.aload_n 0, 1) := by decide +kernel
theorem dX7_asks_154 : decode cX7_asks 154 = .ok (.getfield 13, 3) := by decide +kernel
theorem dX7_asks_157 : decode cX7_asks 157 = .ok (.bipush 16, 2) := by decide +kernel
theorem dX7_asks_159 : decode cX7_asks 159 = .ok (.bipush 20, 2) := by decide +kernel
theorem dX7_asks_161 : decode cX7_asks 161 = .ok (.aload_n 0, 1) := by decide +kernel
theorem dX7_asks_162 : decode cX7_asks 162 = .ok (.getfield 13, 3) := by decide +kernel
theorem dX7_asks_165 : decode cX7_asks 165 = .ok (.bipush 16, 2) := by decide +kernel
theorem dX7_asks_167 : decode cX7_asks 167 = .ok (.iaload, 1) := by decide +kernel
theorem dX7_asks_168 : decode cX7_asks 168 = .ok (.iconst 1, 1) := by decide +kernel
theorem dX7_asks_169 : decode cX7_asks 169 = .ok (.iadd, 1) := by decide +kernel
theorem dX7_asks_170 : decode cX7_asks 170 = .ok (.invokestatic 151, 3) := by decide +kernel
theorem dX7_asks_173 : decode cX7_asks 173 = .ok (.iastore, 1) := by decide +kernel
theorem dX7_asks_174 : decode cX7_asks 174 = .ok (.aload_n 0, 1) := by decide +kernel
theorem dX7_asks_175 : decode cX7_asks 175 = .ok (.getfield 13, 3) := by decide +kernel
theorem dX7_asks_178 : decode cX7_asks 178 = .ok (.bipush 15, 2) := by decide +kernel
theorem dX7_asks_180 : decode cX7_asks 180 = .ok (.iload_n 2, 1) := by decide +kernel
theorem dX7_asks_181 : decode cX7_asks 181 = .ok (.iastore, 1) := by decide +kernel
theorem dX7_asks_182 : decode cX7_asks 182 = .ok (.return_, 1) := by decide +kernel
theorem dX7_nightGoes_0 : decode cX7_nightGoes 0 = .ok (.aload_n 0, 1) := by decide +kernel
theorem dX7_nightGoes_1 : decode cX7_nightGoes 1 = .ok (.getfield 67, 3) := by decide +kernel
theorem dX7_nightGoes_4 : decode cX7_nightGoes 4 = .ok (.ifCond .le 30, 3) := by decide +kernel
theorem dX7_nightGoes_7 : decode cX7_nightGoes 7 = .ok (.aload_n 0, 1) := by decide +kernel
theorem dX7_nightGoes_8 : decode cX7_nightGoes 8 = .ok (.getfield 13, 3) := by decide +kernel
theorem dX7_nightGoes_11 : decode cX7_nightGoes 11 = .ok (.bipush 18, 2) := by decide +kernel
theorem dX7_nightGoes_13 : decode cX7_nightGoes 13 = .ok (.iaload, 1) := by decide +kernel
theorem dX7_nightGoes_14 : decode cX7_nightGoes 14 = .ok (.aload_n 0, 1) := by decide +kernel
theorem dX7_nightGoes_15 : decode cX7_nightGoes 15 = .ok (.getfield 13, 3) := by decide +kernel
theorem dX7_nightGoes_18 : decode cX7_nightGoes 18 = .ok (.bipush 19, 2) := by decide +kernel
theorem dX7_nightGoes_20 : decode cX7_nightGoes 20 = .ok (.iaload, 1) := by decide +kernel
theorem dX7_nightGoes_21 : decode cX7_nightGoes 21 = .ok (.bipush 7, 2) := by decide +kernel
theorem dX7_nightGoes_23 : decode cX7_nightGoes 23 = .ok (.irem, 1) := by decide +kernel
theorem dX7_nightGoes_24 : decode cX7_nightGoes 24 = .ok (.ishr, 1) := by decide +kernel
theorem dX7_nightGoes_25 : decode cX7_nightGoes 25 = .ok (.iconst 1, 1) := by decide +kernel
theorem dX7_nightGoes_26 : decode cX7_nightGoes 26 = .ok (.iand, 1) := by decide +kernel
theorem dX7_nightGoes_27 : decode cX7_nightGoes 27 = .ok (.ifCond .ne 7, 3) := by decide +kernel
theorem dX7_nightGoes_30 : decode cX7_nightGoes 30 = .ok (.aload_n 0, 1) := by decide +kernel
theorem dX7_nightGoes_31 : decode cX7_nightGoes 31 = .ok (.invokevirtual 161, 3) := by decide +kernel
theorem dX7_nightGoes_34 : decode cX7_nightGoes 34 = .ok (.aload_n 0, 1) := by decide +kernel
theorem dX7_nightGoes_35 : decode cX7_nightGoes 35 = .ok (.getfield 13, 3) := by decide +kernel
theorem dX7_nightGoes_38 : decode cX7_nightGoes 38 = .ok (.bipush 19, 2) := by decide +kernel
theorem dX7_nightGoes_40 : decode cX7_nightGoes 40 = .ok (.dup2, 1) := by decide +kernel
theorem dX7_nightGoes_41 : decode cX7_nightGoes 41 = .ok (.iaload, 1) := by decide +kernel
theorem dX7_nightGoes_42 : decode cX7_nightGoes 42 = .ok (.iconst 1, 1) := by decide +kernel
theorem dX7_nightGoes_43 : decode cX7_nightGoes 43 = .ok (.iadd, 1) := by decide +kernel
theorem dX7_nightGoes_44 : decode cX7_nightGoes 44 = .ok (.iastore, 1) := by decide +kernel
theorem dX7_nightGoes_45 : decode cX7_nightGoes 45 = .ok (.return_, 1) := by decide +kernel
theorem dX7_nightsGo_0 : decode cX7_nightsGo 0 = .ok (.iconst 0, 1) := by decide +kernel
theorem dX7_nightsGo_1 : decode cX7_nightsGo 1 = .ok (.istore_n 2, 1) := by decide +kernel
theorem dX7_nightsGo_2 : decode cX7_nightsGo 2 = .ok (.iload_n 2, 1) := by decide +kernel
theorem dX7_nightsGo_3 : decode cX7_nightsGo 3 = .ok (.iload_n 1, 1) := by decide +kernel
theorem dX7_nightsGo_4 : decode cX7_nightsGo 4 = .ok (.if_icmp .ge 13, 3) := by decide +kernel
theorem dX7_nightsGo_7 : decode cX7_nightsGo 7 = .ok (.aload_n 0, 1) := by decide +kernel
theorem dX7_nightsGo_8 : decode cX7_nightsGo 8 = .ok (.invokevirtual 164, 3) := by decide +kernel
theorem dX7_nightsGo_11 : decode cX7_nightsGo 11 = .ok (.iinc 2 1, 3) := by decide +kernel
theorem dX7_nightsGo_14 : decode cX7_nightsGo 14 = .ok (.goto (-12), 3) := by decide +kernel
theorem dX7_nightsGo_17 : decode cX7_nightsGo 17 = .ok (.return_, 1) := by decide +kernel
theorem dX7_lossOf_0 : decode cX7_lossOf 0 = .ok (.aload_n 0, 1) := by decide +kernel
theorem dX7_lossOf_1 : decode cX7_lossOf 1 = .ok (.getfield 13, 3) := by decide +kernel
theorem dX7_lossOf_4 : decode cX7_lossOf 4 = .ok (.bipush 20, 2) := by decide +kernel
theorem dX7_lossOf_6 : decode cX7_lossOf 6 = .ok (.iaload, 1) := by decide +kernel
theorem dX7_lossOf_7 : decode cX7_lossOf 7 = .ok (.aload_n 0, 1) := by decide +kernel
theorem dX7_lossOf_8 : decode cX7_lossOf 8 = .ok (.getfield 13, 3) := by decide +kernel
theorem dX7_lossOf_11 : decode cX7_lossOf 11 = .ok (.bipush 21, 2) := by decide +kernel
theorem dX7_lossOf_13 : decode cX7_lossOf 13 = .ok (.iaload, 1) := by decide +kernel
theorem dX7_lossOf_14 : decode cX7_lossOf 14 = .ok (.iadd, 1) := by decide +kernel
theorem dX7_lossOf_15 : decode cX7_lossOf 15 = .ok (.istore_n 2, 1) := by decide +kernel
theorem dX7_lossOf_16 : decode cX7_lossOf 16 = .ok (.aload_n 0, 1) := by decide +kernel
theorem dX7_lossOf_17 : decode cX7_lossOf 17 = .ok (.iload_n 1, 1) := by decide +kernel
theorem dX7_lossOf_18 : decode cX7_lossOf 18 = .ok (.invokevirtual 167, 3) := by decide +kernel
theorem dX7_lossOf_21 : decode cX7_lossOf 21 = .ok (.aload_n 0, 1) := by decide +kernel
theorem dX7_lossOf_22 : decode cX7_lossOf 22 = .ok (.getfield 13, 3) := by decide +kernel
theorem dX7_lossOf_25 : decode cX7_lossOf 25 = .ok (.bipush 20, 2) := by decide +kernel
theorem dX7_lossOf_27 : decode cX7_lossOf 27 = .ok (.iaload, 1) := by decide +kernel
theorem dX7_lossOf_28 : decode cX7_lossOf 28 = .ok (.aload_n 0, 1) := by decide +kernel
theorem dX7_lossOf_29 : decode cX7_lossOf 29 = .ok (.getfield 13, 3) := by decide +kernel
theorem dX7_lossOf_32 : decode cX7_lossOf 32 = .ok (.bipush 21, 2) := by decide +kernel
theorem dX7_lossOf_34 : decode cX7_lossOf 34 = .ok (.iaload, 1) := by decide +kernel
theorem dX7_lossOf_35 : decode cX7_lossOf 35 = .ok (.iadd, 1) := by decide +kernel
theorem dX7_lossOf_36 : decode cX7_lossOf 36 = .ok (.iload_n 2, 1) := by decide +kernel
theorem dX7_lossOf_37 : decode cX7_lossOf 37 = .ok (.isub, 1) := by decide +kernel
theorem dX7_lossOf_38 : decode cX7_lossOf 38 = .ok (.ireturn, 1) := by decide +kernel
theorem dX7_allOf_0 : decode cX7_allOf 0 = .ok (.iconst 0, 1) := by decide +kernel
theorem dX7_allOf_1 : decode cX7_allOf 1 = .ok (.istore_n 2, 1) := by decide +kernel
theorem dX7_allOf_2 : decode cX7_allOf 2 = .ok (.iconst 0, 1) := by decide +kernel
theorem dX7_allOf_3 : decode cX7_allOf 3 = .ok (.istore_n 3, 1) := by decide +kernel
theorem dX7_allOf_4 : decode cX7_allOf 4 = .ok (.iload_n 3, 1) := by decide +kernel
theorem dX7_allOf_5 : decode cX7_allOf 5 = .ok (.aload_n 0, 1) := by decide +kernel
theorem dX7_allOf_6 : decode cX7_allOf 6 = .ok (.getfield 67, 3) := by decide +kernel
theorem dX7_allOf_9 : decode cX7_allOf 9 = .ok (.if_icmp .ge 20, 3) := by decide +kernel
theorem dX7_allOf_12 : decode cX7_allOf 12 = .ok (.iload_n 2, 1) := by decide +kernel
theorem dX7_allOf_13 : decode cX7_allOf 13 = .ok (.aload_n 0, 1) := by decide +kernel
theorem dX7_allOf_14 : decode cX7_allOf 14 = .ok (.getfield 13, 3) := by decide +kernel
theorem dX7_allOf_17 : decode cX7_allOf 17 = .ok (.iload_n 1, 1) := by decide +kernel
theorem dX7_allOf_18 : decode cX7_allOf 18 = .ok (.iload_n 3, 1) := by decide +kernel
theorem dX7_allOf_19 : decode cX7_allOf 19 = .ok (.iadd, 1) := by decide +kernel
theorem dX7_allOf_20 : decode cX7_allOf 20 = .ok (.iaload, 1) := by decide +kernel
theorem dX7_allOf_21 : decode cX7_allOf 21 = .ok (.iadd, 1) := by decide +kernel
theorem dX7_allOf_22 : decode cX7_allOf 22 = .ok (.istore_n 2, 1) := by decide +kernel
theorem dX7_allOf_23 : decode cX7_allOf 23 = .ok (.iinc 3 1, 3) := by decide +kernel
theorem dX7_allOf_26 : decode cX7_allOf 26 = .ok (.goto (-22), 3) := by decide +kernel
theorem dX7_allOf_29 : decode cX7_allOf 29 = .ok (.iload_n 2, 1) := by decide +kernel
theorem dX7_allOf_30 : decode cX7_allOf 30 = .ok (.ireturn, 1) := by decide +kernel
theorem dX7_rule_0 : decode cX7_rule 0 = .ok (.aload_n 0, 1) := by decide +kernel
theorem dX7_rule_1 : decode cX7_rule 1 = .ok (.invokevirtual 170, 3) := by decide +kernel
theorem dX7_rule_4 : decode cX7_rule 4 = .ok (.iload_n 1, 1) := by decide +kernel
theorem dX7_rule_5 : decode cX7_rule 5 = .ok (.tableswitch 74 0 8 #[51, 56, 56, 56, 56, 56, 56, 56, 68], 51) := by decide +kernel
theorem dX7_rule_56 : decode cX7_rule 56 = .ok (.aload_n 0, 1) := by decide +kernel
theorem dX7_rule_57 : decode cX7_rule 57 = .ok (.getfield 67, 3) := by decide +kernel
theorem dX7_rule_60 : decode cX7_rule 60 = .ok (.ireturn, 1) := by decide +kernel
theorem dX7_rule_61 : decode cX7_rule 61 = .ok (.aload_n 0, 1) := by decide +kernel
theorem dX7_rule_62 : decode cX7_rule 62 = .ok (.getfield 7, 3) := by decide +kernel
theorem dX7_rule_65 : decode cX7_rule 65 = .ok (.bipush 15, 2) := by decide +kernel
theorem dX7_rule_67 : decode cX7_rule 67 = .ok (.iload_n 1, 1) := by decide +kernel
theorem dX7_rule_68 : decode cX7_rule 68 = .ok (.iadd, 1) := by decide +kernel
theorem dX7_rule_69 : decode cX7_rule 69 = .ok (.iconst 1, 1) := by decide +kernel
theorem dX7_rule_70 : decode cX7_rule 70 = .ok (.isub, 1) := by decide +kernel
theorem dX7_rule_71 : decode cX7_rule 71 = .ok (.iaload, 1) := by decide +kernel
theorem dX7_rule_72 : decode cX7_rule 72 = .ok (.ireturn, 1) := by decide +kernel
theorem dX7_rule_73 : decode cX7_rule 73 = .ok (.aload_n 0, 1) := by decide +kernel
theorem dX7_rule_74 : decode cX7_rule 74 = .ok (.iconst 5, 1) := by decide +kernel
theorem dX7_rule_75 : decode cX7_rule 75 = .ok (.invokevirtual 173, 3) := by decide +kernel
theorem dX7_rule_78 : decode cX7_rule 78 = .ok (.ireturn, 1) := by decide +kernel
theorem dX7_rule_79 : decode cX7_rule 79 = .ok (.iconst (-1), 1) := by decide +kernel
theorem dX7_rule_80 : decode cX7_rule 80 = .ok (.ireturn, 1) := by decide +kernel
theorem dX7_house_0 : decode cX7_house 0 = .ok (.aload_n 0, 1) := by decide +kernel
theorem dX7_house_1 : decode cX7_house 1 = .ok (.iload_n 1, 1) := by decide +kernel
theorem dX7_house_2 : decode cX7_house 2 = .ok (.invokevirtual 176, 3) := by decide +kernel
theorem dX7_house_5 : decode cX7_house 5 = .ok (.ifCond .eq 28, 3) := by decide +kernel
theorem dX7_house_8 : decode cX7_house 8 = .ok (.iload_n 2, 1) := by decide +kernel
theorem dX7_house_9 : decode cX7_house 9 = .ok (.i2l, 1) := by decide +kernel
theorem dX7_house_10 : decode cX7_house 10 = .ok (.lconst 0, 1) := by decide +kernel
theorem dX7_house_11 : decode cX7_house 11 = .ok (.ldc2_w 180, 3) := by decide +kernel
theorem dX7_house_14 : decode cX7_house 14 = .ok (.invokestatic 72, 3) := by decide +kernel
theorem dX7_house_17 : decode cX7_house 17 = .ok (.ifCond .eq 16, 3) := by decide +kernel
theorem dX7_house_20 : decode cX7_house 20 = .ok (.aload_n 0, 1) := by decide +kernel
theorem dX7_house_21 : decode cX7_house 21 = .ok (.getfield 7, 3) := by decide +kernel
theorem dX7_house_24 : decode cX7_house 24 = .ok (.iconst 5, 1) := by decide +kernel
theorem dX7_house_25 : decode cX7_house 25 = .ok (.iload_n 2, 1) := by decide +kernel
theorem dX7_house_26 : decode cX7_house 26 = .ok (.imul, 1) := by decide +kernel
theorem dX7_house_27 : decode cX7_house 27 = .ok (.iload_n 1, 1) := by decide +kernel
theorem dX7_house_28 : decode cX7_house 28 = .ok (.iadd, 1) := by decide +kernel
theorem dX7_house_29 : decode cX7_house 29 = .ok (.iaload, 1) := by decide +kernel
theorem dX7_house_30 : decode cX7_house 30 = .ok (.goto 4, 3) := by decide +kernel
theorem dX7_house_33 : decode cX7_house 33 = .ok (.iconst (-1), 1) := by decide +kernel
theorem dX7_house_34 : decode cX7_house 34 = .ok (.ireturn, 1) := by decide +kernel
theorem dX7_becomes_0 : decode cX7_becomes 0 = .ok (.aload_n 0, 1) := by decide +kernel
theorem dX7_becomes_1 : decode cX7_becomes 1 = .ok (.getfield 7, 3) := by decide +kernel
theorem dX7_becomes_4 : decode cX7_becomes 4 = .ok (.iload_n 1, 1) := by decide +kernel
theorem dX7_becomes_5 : decode cX7_becomes 5 = .ok (.iaload, 1) := by decide +kernel
theorem dX7_becomes_6 : decode cX7_becomes 6 = .ok (.istore_n 3, 1) := by decide +kernel
theorem dX7_becomes_7 : decode cX7_becomes 7 = .ok (.aload_n 0, 1) := by decide +kernel
theorem dX7_becomes_8 : decode cX7_becomes 8 = .ok (.getfield 7, 3) := by decide +kernel
theorem dX7_becomes_11 : decode cX7_becomes 11 = .ok (.iload_n 1, 1) := by decide +kernel
theorem dX7_becomes_12 : decode cX7_becomes 12 = .ok (.iload_n 2, 1) := by decide +kernel
theorem dX7_becomes_13 : decode cX7_becomes 13 = .ok (.iastore, 1) := by decide +kernel
theorem dX7_becomes_14 : decode cX7_becomes 14 = .ok (.iload_n 3, 1) := by decide +kernel
theorem dX7_becomes_15 : decode cX7_becomes 15 = .ok (.ireturn, 1) := by decide +kernel
theorem dX7_alter_0 : decode cX7_alter 0 = .ok (.aload_n 0, 1) := by decide +kernel
theorem dX7_alter_1 : decode cX7_alter 1 = .ok (.iload_n 1, 1) := by decide +kernel
theorem dX7_alter_2 : decode cX7_alter 2 = .ok (.invokevirtual 176, 3) := by decide +kernel
theorem dX7_alter_5 : decode cX7_alter 5 = .ok (.ifCond .eq 45, 3) := by decide +kernel
theorem dX7_alter_8 : decode cX7_alter 8 = .ok (.iload_n 2, 1) := by decide +kernel
theorem dX7_alter_9 : decode cX7_alter 9 = .ok (.invokestatic 182, 3) := by decide +kernel
theorem dX7_alter_12 : decode cX7_alter 12 = .ok (.ifCond .eq 38, 3) := by decide +kernel
theorem dX7_alter_15 : decode cX7_alter 15 = .ok (.iload_n 3, 1) := by decide +kernel
theorem dX7_alter_16 : decode cX7_alter 16 = .ok (.i2l, 1) := by decide +kernel
theorem dX7_alter_17 : decode cX7_alter 17 = .ok (.lconst 0, 1) := by decide +kernel
theorem dX7_alter_18 : decode cX7_alter 18 = .ok (.iload_n 2, 1) := by decide +kernel
theorem dX7_alter_19 : decode cX7_alter 19 = .ok (.ifCond .ne 9, 3) := by decide +kernel
theorem dX7_alter_22 : decode cX7_alter 22 = .ok (.ldc2_w 185, 3) := by decide +kernel
theorem dX7_alter_25 : decode cX7_alter 25 = .ok (.goto 6, 3) := by decide +kernel
theorem dX7_alter_28 : decode cX7_alter 28 = .ok (.ldc2_w 187, 3) := by decide +kernel
theorem dX7_alter_31 : decode cX7_alter 31 = .ok (.invokestatic 72, 3) := by decide +kernel
theorem dX7_alter_34 : decode cX7_alter 34 = .ok (.ifCond .eq 16, 3) := by decide +kernel
theorem dX7_alter_37 : decode cX7_alter 37 = .ok (.aload_n 0, 1) := by decide +kernel
theorem dX7_alter_38 : decode cX7_alter 38 = .ok (.iconst 5, 1) := by decide +kernel
theorem dX7_alter_39 : decode cX7_alter 39 = .ok (.iload_n 2, 1) := by decide +kernel
theorem dX7_alter_40 : decode cX7_alter 40 = .ok (.imul, 1) := by decide +kernel
theorem dX7_alter_41 : decode cX7_alter 41 = .ok (.iload_n 1, 1) := by decide +kernel
theorem dX7_alter_42 : decode cX7_alter 42 = .ok (.iadd, 1) := by decide +kernel
theorem dX7_alter_43 : decode cX7_alter 43 = .ok (.iload_n 3, 1) := by decide +kernel
theorem dX7_alter_44 : decode cX7_alter 44 = .ok (.invokevirtual 189, 3) := by decide +kernel
theorem dX7_alter_47 : decode cX7_alter 47 = .ok (.goto 4, 3) := by decide +kernel
theorem dX7_alter_50 : decode cX7_alter 50 = .ok (.iconst (-1), 1) := by decide +kernel
theorem dX7_alter_51 : decode cX7_alter 51 = .ok (.ireturn, 1) := by decide +kernel
theorem dX7_set_0 : decode cX7_set 0 = .ok (.iload_n 1, 1) := by decide +kernel
theorem dX7_set_1 : decode cX7_set 1 = .ok (.iconst 1, 1) := by decide +kernel
theorem dX7_set_2 : decode cX7_set 2 = .ok (.if_icmp .ne 11, 3) := by decide +kernel
theorem dX7_set_5 : decode cX7_set 5 = .ok (.aload_n 0, 1) := by decide +kernel
theorem dX7_set_6 : decode cX7_set 6 = .ok (.iload_n 2, 1) := by decide +kernel
theorem dX7_set_7 : decode cX7_set 7 = .ok (.invokevirtual 176, 3) := by decide +kernel
theorem dX7_set_10 : decode cX7_set 10 = .ok (.goto 42, 3) := by decide +kernel
theorem dX7_set_13 : decode cX7_set 13 = .ok (.iload_n 1, 1) := by decide +kernel
theorem dX7_set_14 : decode cX7_set 14 = .ok (.iconst 2, 1) := by decide +kernel
theorem dX7_set_15 : decode cX7_set 15 = .ok (.if_icmp .ne 15, 3) := by decide +kernel
theorem dX7_set_18 : decode cX7_set 18 = .ok (.iload_n 2, 1) := by decide +kernel
theorem dX7_set_19 : decode cX7_set 19 = .ok (.i2l, 1) := by decide +kernel
theorem dX7_set_20 : decode cX7_set 20 = .ok (.lconst 0, 1) := by decide +kernel
theorem dX7_set_21 : decode cX7_set 21 = .ok (.ldc2_w 192, 3) := by decide +kernel
theorem dX7_set_24 : decode cX7_set 24 = .ok (.invokestatic 72, 3) := by decide +kernel
theorem dX7_set_27 : decode cX7_set 27 = .ok (.goto 25, 3) := by decide +kernel
theorem dX7_set_30 : decode cX7_set 30 = .ok (.iload_n 1, 1) := by decide +kernel
theorem dX7_set_31 : decode cX7_set 31 = .ok (.iconst 3, 1) := by decide +kernel
theorem dX7_set_32 : decode cX7_set 32 = .ok (.if_icmp .ne 19, 3) := by decide +kernel
theorem dX7_set_35 : decode cX7_set 35 = .ok (.iload_n 2, 1) := by decide +kernel
theorem dX7_set_36 : decode cX7_set 36 = .ok (.i2l, 1) := by decide +kernel
theorem dX7_set_37 : decode cX7_set 37 = .ok (.lconst 0, 1) := by decide +kernel
theorem dX7_set_38 : decode cX7_set 38 = .ok (.ldc2_w 194, 3) := by decide +kernel
theorem dX7_set_41 : decode cX7_set 41 = .ok (.invokestatic 72, 3) := by decide +kernel
theorem dX7_set_44 : decode cX7_set 44 = .ok (.ifCond .eq 7, 3) := by decide +kernel
theorem dX7_set_47 : decode cX7_set 47 = .ok (.iconst 1, 1) := by decide +kernel
theorem dX7_set_48 : decode cX7_set 48 = .ok (.goto 4, 3) := by decide +kernel
theorem dX7_set_51 : decode cX7_set 51 = .ok (.iconst 0, 1) := by decide +kernel
theorem dX7_set_52 : decode cX7_set 52 = .ok (.istore_n 3, 1) := by decide +kernel
theorem dX7_set_53 : decode cX7_set 53 = .ok (.iload_n 3, 1) := by decide +kernel
theorem dX7_set_54 : decode cX7_set 54 = .ok (.ifCond .eq 17, 3) := by decide +kernel
theorem dX7_set_57 : decode cX7_set 57 = .ok (.aload_n 0, 1) := by decide +kernel
theorem dX7_set_58 : decode cX7_set 58 = .ok (.bipush 15, 2) := by decide +kernel
theorem dX7_set_60 : decode cX7_set 60 = .ok (.iload_n 1, 1) := by decide +kernel
theorem dX7_set_61 : decode cX7_set 61 = .ok (.iadd, 1) := by decide +kernel
theorem dX7_set_62 : decode cX7_set 62 = .ok (.iconst 1, 1) := by decide +kernel
theorem dX7_set_63 : decode cX7_set 63 = .ok (.isub, 1) := by decide +kernel
theorem dX7_set_64 : decode cX7_set 64 = .ok (.iload_n 2, 1) := by decide +kernel
theorem dX7_set_65 : decode cX7_set 65 = .ok (.invokevirtual 189, 3) := by decide +kernel
theorem dX7_set_68 : decode cX7_set 68 = .ok (.goto 4, 3) := by decide +kernel
theorem dX7_set_71 : decode cX7_set 71 = .ok (.iconst (-1), 1) := by decide +kernel
theorem dX7_set_72 : decode cX7_set 72 = .ok (.ireturn, 1) := by decide +kernel
theorem dX7_rain_0 : decode cX7_rain 0 = .ok (.iload_n 1, 1) := by decide +kernel
theorem dX7_rain_1 : decode cX7_rain 1 = .ok (.i2l, 1) := by decide +kernel
theorem dX7_rain_2 : decode cX7_rain 2 = .ok (.lconst 0, 1) := by decide +kernel
theorem dX7_rain_3 : decode cX7_rain 3 = .ok (.ldc2_w 196, 3) := by decide +kernel
theorem dX7_rain_6 : decode cX7_rain 6 = .ok (.invokestatic 72, 3) := by decide +kernel
theorem dX7_rain_9 : decode cX7_rain 9 = .ok (.ifCond .ne 5, 3) := by decide +kernel
theorem dX7_rain_12 : decode cX7_rain 12 = .ok (.iconst (-1), 1) := by decide +kernel
theorem dX7_rain_13 : decode cX7_rain 13 = .ok (.ireturn, 1) := by decide +kernel
theorem dX7_rain_14 : decode cX7_rain 14 = .ok (.aload_n 0, 1) := by decide +kernel
theorem dX7_rain_15 : decode cX7_rain 15 = .ok (.getfield 7, 3) := by decide +kernel
theorem dX7_rain_18 : decode cX7_rain 18 = .ok (.bipush 18, 2) := by decide +kernel
theorem dX7_rain_20 : decode cX7_rain 20 = .ok (.iaload, 1) := by decide +kernel
theorem dX7_rain_21 : decode cX7_rain 21 = .ok (.istore_n 3, 1) := by decide +kernel
theorem dX7_rain_22 : decode cX7_rain 22 = .ok (.aload_n 0, 1) := by decide +kernel
theorem dX7_rain_23 : decode cX7_rain 23 = .ok (.getfield 7, 3) := by decide +kernel
theorem dX7_rain_26 : decode cX7_rain 26 = .ok (.bipush 18, 2) := by decide +kernel
theorem dX7_rain_28 : decode cX7_rain 28 = .ok (.iload_n 2, 1) := by decide +kernel
theorem dX7_rain_29 : decode cX7_rain 29 = .ok (.ifCond .eq 11, 3) := by decide +kernel
theorem dX7_rain_32 : decode cX7_rain 32 = .ok (.iload_n 3, 1) := by decide +kernel
theorem dX7_rain_33 : decode cX7_rain 33 = .ok (.iconst 1, 1) := by decide +kernel
theorem dX7_rain_34 : decode cX7_rain 34 = .ok (.iload_n 1, 1) := by decide +kernel
theorem dX7_rain_35 : decode cX7_rain 35 = .ok (.ishl, 1) := by decide +kernel
theorem dX7_rain_36 : decode cX7_rain 36 = .ok (.ior, 1) := by decide +kernel
theorem dX7_rain_37 : decode cX7_rain 37 = .ok (.goto 10, 3) := by decide +kernel
theorem dX7_rain_40 : decode cX7_rain 40 = .ok (.iload_n 3, 1) := by decide +kernel
theorem dX7_rain_41 : decode cX7_rain 41 = .ok (.iconst 1, 1) := by decide +kernel
theorem dX7_rain_42 : decode cX7_rain 42 = .ok (.iload_n 1, 1) := by decide +kernel
theorem dX7_rain_43 : decode cX7_rain 43 = .ok (.ishl, 1) := by decide +kernel
theorem dX7_rain_44 : decode cX7_rain 44 = .ok (.iconst (-1), 1) := by decide +kernel
theorem dX7_rain_45 : decode cX7_rain 45 = .ok (.ixor, 1) := by decide +kernel
theorem dX7_rain_46 : decode cX7_rain 46 = .ok (.iand, 1) := by decide +kernel
theorem dX7_rain_47 : decode cX7_rain 47 = .ok (.iastore, 1) := by decide +kernel
theorem dX7_rain_48 : decode cX7_rain 48 = .ok (.iload_n 3, 1) := by decide +kernel
theorem dX7_rain_49 : decode cX7_rain 49 = .ok (.iload_n 1, 1) := by decide +kernel
theorem dX7_rain_50 : decode cX7_rain 50 = .ok (.ishr, 1) := by decide +kernel
theorem dX7_rain_51 : decode cX7_rain 51 = .ok (.iconst 1, 1) := by decide +kernel
theorem dX7_rain_52 : decode cX7_rain 52 = .ok (.iand, 1) := by decide +kernel
theorem dX7_rain_53 : decode cX7_rain 53 = .ok (.ireturn, 1) := by decide +kernel
theorem dX7_offer_0 : decode cX7_offer 0 = .ok (.aload_n 0, 1) := by decide +kernel
theorem dX7_offer_1 : decode cX7_offer 1 = .ok (.iload_n 1, 1) := by decide +kernel
theorem dX7_offer_2 : decode cX7_offer 2 = .ok (.invokevirtual 176, 3) := by decide +kernel
theorem dX7_offer_5 : decode cX7_offer 5 = .ok (.ifCond .eq 15, 3) := by decide +kernel
theorem dX7_offer_8 : decode cX7_offer 8 = .ok (.iload_n 2, 1) := by decide +kernel
theorem dX7_offer_9 : decode cX7_offer 9 = .ok (.i2l, 1) := by decide +kernel
theorem dX7_offer_10 : decode cX7_offer 10 = .ok (.lconst 1, 1) := by decide +kernel
theorem dX7_offer_11 : decode cX7_offer 11 = .ok (.ldc2_w 192, 3) := by decide +kernel
theorem dX7_offer_14 : decode cX7_offer 14 = .ok (.invokestatic 72, 3) := by decide +kernel
theorem dX7_offer_17 : decode cX7_offer 17 = .ok (.ifCond .ne 5, 3) := by decide +kernel
theorem dX7_offer_20 : decode cX7_offer 20 = .ok (.iconst (-1), 1) := by decide +kernel
theorem dX7_offer_21 : decode cX7_offer 21 = .ok (.ireturn, 1) := by decide +kernel
theorem dX7_offer_22 : decode cX7_offer 22 = .ok (.aload_n 0, 1) := by decide +kernel
theorem dX7_offer_23 : decode cX7_offer 23 = .ok (.getfield 7, 3) := by decide +kernel
theorem dX7_offer_26 : decode cX7_offer 26 = .ok (.iconst 5, 1) := by decide +kernel
theorem dX7_offer_27 : decode cX7_offer 27 = .ok (.iload_n 1, 1) := by decide +kernel
theorem dX7_offer_28 : decode cX7_offer 28 = .ok (.iadd, 1) := by decide +kernel
theorem dX7_offer_29 : decode cX7_offer 29 = .ok (.iaload, 1) := by decide +kernel
theorem dX7_offer_30 : decode cX7_offer 30 = .ok (.iload_n 2, 1) := by decide +kernel
theorem dX7_offer_31 : decode cX7_offer 31 = .ok (.if_icmp .ge 6, 3) := by decide +kernel
theorem dX7_offer_34 : decode cX7_offer 34 = .ok (.bipush (-2), 2) := by decide +kernel
theorem dX7_offer_36 : decode cX7_offer 36 = .ok (.ireturn, 1) := by decide +kernel
theorem dX7_offer_37 : decode cX7_offer 37 = .ok (.aload_n 0, 1) := by decide +kernel
theorem dX7_offer_38 : decode cX7_offer 38 = .ok (.invokevirtual 170, 3) := by decide +kernel
theorem dX7_offer_41 : decode cX7_offer 41 = .ok (.aload_n 0, 1) := by decide +kernel
theorem dX7_offer_42 : decode cX7_offer 42 = .ok (.iload_n 1, 1) := by decide +kernel
theorem dX7_offer_43 : decode cX7_offer 43 = .ok (.iload_n 2, 1) := by decide +kernel
theorem dX7_offer_44 : decode cX7_offer 44 = .ok (.invokevirtual 157, 3) := by decide +kernel
theorem dX7_offer_47 : decode cX7_offer 47 = .ok (.aload_n 0, 1) := by decide +kernel
theorem dX7_offer_48 : decode cX7_offer 48 = .ok (.invokevirtual 198, 3) := by decide +kernel
theorem dX7_offer_51 : decode cX7_offer 51 = .ok (.aload_n 0, 1) := by decide +kernel
theorem dX7_offer_52 : decode cX7_offer 52 = .ok (.getfield 7, 3) := by decide +kernel
theorem dX7_offer_55 : decode cX7_offer 55 = .ok (.bipush 16, 2) := by decide +kernel
theorem dX7_offer_57 : decode cX7_offer 57 = .ok (.iaload, 1) := by decide +kernel
theorem dX7_offer_58 : decode cX7_offer 58 = .ok (.ireturn, 1) := by decide +kernel
theorem dX7_go_0 : decode cX7_go 0 = .ok (.iload_n 1, 1) := by decide +kernel
theorem dX7_go_1 : decode cX7_go 1 = .ok (.i2l, 1) := by decide +kernel
theorem dX7_go_2 : decode cX7_go 2 = .ok (.lconst 0, 1) := by decide +kernel
theorem dX7_go_3 : decode cX7_go 3 = .ok (.ldc2_w 201, 3) := by decide +kernel
theorem dX7_go_6 : decode cX7_go 6 = .ok (.invokestatic 72, 3) := by decide +kernel
theorem dX7_go_9 : decode cX7_go 9 = .ok (.ifCond .ne 5, 3) := by decide +kernel
theorem dX7_go_12 : decode cX7_go 12 = .ok (.iconst (-1), 1) := by decide +kernel
theorem dX7_go_13 : decode cX7_go 13 = .ok (.ireturn, 1) := by decide +kernel
theorem dX7_go_14 : decode cX7_go 14 = .ok (.aload_n 0, 1) := by decide +kernel
theorem dX7_go_15 : decode cX7_go 15 = .ok (.getfield 7, 3) := by decide +kernel
theorem dX7_go_18 : decode cX7_go 18 = .ok (.bipush 19, 2) := by decide +kernel
theorem dX7_go_20 : decode cX7_go 20 = .ok (.iaload, 1) := by decide +kernel
theorem dX7_go_21 : decode cX7_go 21 = .ok (.iload_n 1, 1) := by decide +kernel
theorem dX7_go_22 : decode cX7_go 22 = .ok (.iadd, 1) := by decide +kernel
theorem dX7_go_23 : decode cX7_go 23 = .ok (.sipush 999, 3) := by decide +kernel
theorem dX7_go_26 : decode cX7_go 26 = .ok (.if_icmp .le 6, 3) := by decide +kernel
theorem dX7_go_29 : decode cX7_go 29 = .ok (.bipush (-3), 2) := by decide +kernel
theorem dX7_go_31 : decode cX7_go 31 = .ok (.ireturn, 1) := by decide +kernel
theorem dX7_go_32 : decode cX7_go 32 = .ok (.aload_n 0, 1) := by decide +kernel
theorem dX7_go_33 : decode cX7_go 33 = .ok (.getfield 7, 3) := by decide +kernel
theorem dX7_go_36 : decode cX7_go 36 = .ok (.bipush 20, 2) := by decide +kernel
theorem dX7_go_38 : decode cX7_go 38 = .ok (.iaload, 1) := by decide +kernel
theorem dX7_go_39 : decode cX7_go 39 = .ok (.istore_n 2, 1) := by decide +kernel
theorem dX7_go_40 : decode cX7_go 40 = .ok (.aload_n 0, 1) := by decide +kernel
theorem dX7_go_41 : decode cX7_go 41 = .ok (.invokevirtual 170, 3) := by decide +kernel
theorem dX7_go_44 : decode cX7_go 44 = .ok (.aload_n 0, 1) := by decide +kernel
theorem dX7_go_45 : decode cX7_go 45 = .ok (.iload_n 1, 1) := by decide +kernel
theorem dX7_go_46 : decode cX7_go 46 = .ok (.invokevirtual 167, 3) := by decide +kernel
theorem dX7_go_49 : decode cX7_go 49 = .ok (.aload_n 0, 1) := by decide +kernel
theorem dX7_go_50 : decode cX7_go 50 = .ok (.invokevirtual 198, 3) := by decide +kernel
theorem dX7_go_53 : decode cX7_go 53 = .ok (.aload_n 0, 1) := by decide +kernel
theorem dX7_go_54 : decode cX7_go 54 = .ok (.getfield 7, 3) := by decide +kernel
theorem dX7_go_57 : decode cX7_go 57 = .ok (.bipush 20, 2) := by decide +kernel
theorem dX7_go_59 : decode cX7_go 59 = .ok (.iaload, 1) := by decide +kernel
theorem dX7_go_60 : decode cX7_go 60 = .ok (.iload_n 2, 1) := by decide +kernel
theorem dX7_go_61 : decode cX7_go 61 = .ok (.isub, 1) := by decide +kernel
theorem dX7_go_62 : decode cX7_go 62 = .ok (.ireturn, 1) := by decide +kernel
theorem dX7_runs_0 : decode cX7_runs 0 = .ok (.iload_n 1, 1) := by decide +kernel
theorem dX7_runs_1 : decode cX7_runs 1 = .ok (.i2l, 1) := by decide +kernel
theorem dX7_runs_2 : decode cX7_runs 2 = .ok (.lconst 0, 1) := by decide +kernel
theorem dX7_runs_3 : decode cX7_runs 3 = .ok (.ldc2_w 201, 3) := by decide +kernel
theorem dX7_runs_6 : decode cX7_runs 6 = .ok (.invokestatic 72, 3) := by decide +kernel
theorem dX7_runs_9 : decode cX7_runs 9 = .ok (.ifCond .eq 15, 3) := by decide +kernel
theorem dX7_runs_12 : decode cX7_runs 12 = .ok (.iload_n 2, 1) := by decide +kernel
theorem dX7_runs_13 : decode cX7_runs 13 = .ok (.i2l, 1) := by decide +kernel
theorem dX7_runs_14 : decode cX7_runs 14 = .ok (.lconst 0, 1) := by decide +kernel
theorem dX7_runs_15 : decode cX7_runs 15 = .ok (.ldc2_w 203, 3) := by decide +kernel
theorem dX7_runs_18 : decode cX7_runs 18 = .ok (.invokestatic 72, 3) := by decide +kernel
theorem dX7_runs_21 : decode cX7_runs 21 = .ok (.ifCond .ne 5, 3) := by decide +kernel
theorem dX7_runs_24 : decode cX7_runs 24 = .ok (.iconst (-1), 1) := by decide +kernel
theorem dX7_runs_25 : decode cX7_runs 25 = .ok (.ireturn, 1) := by decide +kernel
theorem dX7_runs_26 : decode cX7_runs 26 = .ok (.bipush (-4), 2) := by decide +kernel
theorem dX7_runs_28 : decode cX7_runs 28 = .ok (.istore_n 3, 1) := by decide +kernel
theorem dX7_runs_29 : decode cX7_runs 29 = .ok (.aload_n 0, 1) := by decide +kernel
theorem dX7_runs_30 : decode cX7_runs 30 = .ok (.invokevirtual 170, 3) := by decide +kernel
theorem dX7_runs_33 : decode cX7_runs 33 = .ok (.iconst 1, 1) := by decide +kernel
theorem dX7_runs_34 : decode cX7_runs 34 = .ok (.istore 4, 2) := by decide +kernel
theorem dX7_runs_36 : decode cX7_runs 36 = .ok (.iload 4, 2) := by decide +kernel
theorem dX7_runs_38 : decode cX7_runs 38 = .ok (.iload_n 1, 1) := by decide +kernel
theorem dX7_runs_39 : decode cX7_runs 39 = .ok (.if_icmp .gt 43, 3) := by decide +kernel
theorem dX7_runs_42 : decode cX7_runs 42 = .ok (.aload_n 0, 1) := by decide +kernel
theorem dX7_runs_43 : decode cX7_runs 43 = .ok (.invokevirtual 164, 3) := by decide +kernel
theorem dX7_runs_46 : decode cX7_runs 46 = .ok (.aload_n 0, 1) := by decide +kernel
theorem dX7_runs_47 : decode cX7_runs 47 = .ok (.getfield 13, 3) := by decide +kernel
theorem dX7_runs_50 : decode cX7_runs 50 = .ok (.bipush 20, 2) := by decide +kernel
theorem dX7_runs_52 : decode cX7_runs 52 = .ok (.iaload, 1) := by decide +kernel
theorem dX7_runs_53 : decode cX7_runs 53 = .ok (.aload_n 0, 1) := by decide +kernel
theorem dX7_runs_54 : decode cX7_runs 54 = .ok (.getfield 7, 3) := by decide +kernel
theorem dX7_runs_57 : decode cX7_runs 57 = .ok (.bipush 20, 2) := by decide +kernel
theorem dX7_runs_59 : decode cX7_runs 59 = .ok (.iaload, 1) := by decide +kernel
theorem dX7_runs_60 : decode cX7_runs 60 = .ok (.if_icmp .le 14, 3) := by decide +kernel
theorem dX7_runs_63 : decode cX7_runs 63 = .ok (.iload_n 3, 1) := by decide +kernel
theorem dX7_runs_64 : decode cX7_runs 64 = .ok (.bipush (-4), 2) := by decide +kernel
theorem dX7_runs_66 : decode cX7_runs 66 = .ok (.if_icmp .ne 8, 3) := by decide +kernel
theorem dX7_runs_69 : decode cX7_runs 69 = .ok (.iload 4, 2) := by decide +kernel
theorem dX7_runs_71 : decode cX7_runs 71 = .ok (.goto 4, 3) := by decide +kernel
theorem dX7_runs_74 : decode cX7_runs 74 = .ok (.iload_n 3, 1) := by decide +kernel
theorem dX7_runs_75 : decode cX7_runs 75 = .ok (.istore_n 3, 1) := by decide +kernel
theorem dX7_runs_76 : decode cX7_runs 76 = .ok (.iinc 4 1, 3) := by decide +kernel
theorem dX7_runs_79 : decode cX7_runs 79 = .ok (.goto (-43), 3) := by decide +kernel
theorem dX7_runs_82 : decode cX7_runs 82 = .ok (.iload_n 2, 1) := by decide +kernel
theorem dX7_runs_83 : decode cX7_runs 83 = .ok (.tableswitch 89 0 4 #[33, 49, 65, 73, 81], 33) := by decide +kernel
theorem dX7_runs_116 : decode cX7_runs 116 = .ok (.aload_n 0, 1) := by decide +kernel
theorem dX7_runs_117 : decode cX7_runs 117 = .ok (.getfield 13, 3) := by decide +kernel
theorem dX7_runs_120 : decode cX7_runs 120 = .ok (.bipush 20, 2) := by decide +kernel
theorem dX7_runs_122 : decode cX7_runs 122 = .ok (.iaload, 1) := by decide +kernel
theorem dX7_runs_123 : decode cX7_runs 123 = .ok (.aload_n 0, 1) := by decide +kernel
theorem dX7_runs_124 : decode cX7_runs 124 = .ok (.getfield 7, 3) := by decide +kernel
theorem dX7_runs_127 : decode cX7_runs 127 = .ok (.bipush 20, 2) := by decide +kernel
theorem dX7_runs_129 : decode cX7_runs 129 = .ok (.iaload, 1) := by decide +kernel
theorem dX7_runs_130 : decode cX7_runs 130 = .ok (.isub, 1) := by decide +kernel
theorem dX7_runs_131 : decode cX7_runs 131 = .ok (.ireturn, 1) := by decide +kernel
theorem dX7_runs_132 : decode cX7_runs 132 = .ok (.aload_n 0, 1) := by decide +kernel
theorem dX7_runs_133 : decode cX7_runs 133 = .ok (.getfield 13, 3) := by decide +kernel
theorem dX7_runs_136 : decode cX7_runs 136 = .ok (.bipush 21, 2) := by decide +kernel
theorem dX7_runs_138 : decode cX7_runs 138 = .ok (.iaload, 1) := by decide +kernel
theorem dX7_runs_139 : decode cX7_runs 139 = .ok (.aload_n 0, 1) := by decide +kernel
theorem dX7_runs_140 : decode cX7_runs 140 = .ok (.getfield 7, 3) := by decide +kernel
theorem dX7_runs_143 : decode cX7_runs 143 = .ok (.bipush 21, 2) := by decide +kernel
theorem dX7_runs_145 : decode cX7_runs 145 = .ok (.iaload, 1) := by decide +kernel
theorem dX7_runs_146 : decode cX7_runs 146 = .ok (.isub, 1) := by decide +kernel
theorem dX7_runs_147 : decode cX7_runs 147 = .ok (.ireturn, 1) := by decide +kernel
theorem dX7_runs_148 : decode cX7_runs 148 = .ok (.aload_n 0, 1) := by decide +kernel
theorem dX7_runs_149 : decode cX7_runs 149 = .ok (.getfield 13, 3) := by decide +kernel
theorem dX7_runs_152 : decode cX7_runs 152 = .ok (.bipush 16, 2) := by decide +kernel
theorem dX7_runs_154 : decode cX7_runs 154 = .ok (.iaload, 1) := by decide +kernel
theorem dX7_runs_155 : decode cX7_runs 155 = .ok (.ireturn, 1) := by decide +kernel
theorem dX7_runs_156 : decode cX7_runs 156 = .ok (.aload_n 0, 1) := by decide +kernel
theorem dX7_runs_157 : decode cX7_runs 157 = .ok (.getfield 13, 3) := by decide +kernel
theorem dX7_runs_160 : decode cX7_runs 160 = .ok (.bipush 17, 2) := by decide +kernel
theorem dX7_runs_162 : decode cX7_runs 162 = .ok (.iaload, 1) := by decide +kernel
theorem dX7_runs_163 : decode cX7_runs 163 = .ok (.ireturn, 1) := by decide +kernel
theorem dX7_runs_164 : decode cX7_runs 164 = .ok (.aload_n 0, 1) := by decide +kernel
theorem dX7_runs_165 : decode cX7_runs 165 = .ok (.getfield 13, 3) := by decide +kernel
theorem dX7_runs_168 : decode cX7_runs 168 = .ok (.bipush 15, 2) := by decide +kernel
theorem dX7_runs_170 : decode cX7_runs 170 = .ok (.iaload, 1) := by decide +kernel
theorem dX7_runs_171 : decode cX7_runs 171 = .ok (.ireturn, 1) := by decide +kernel
theorem dX7_runs_172 : decode cX7_runs 172 = .ok (.iload_n 3, 1) := by decide +kernel
theorem dX7_runs_173 : decode cX7_runs 173 = .ok (.ireturn, 1) := by decide +kernel
theorem dX7_ahead_0 : decode cX7_ahead 0 = .ok (.aload_n 0, 1) := by decide +kernel
theorem dX7_ahead_1 : decode cX7_ahead 1 = .ok (.iload_n 1, 1) := by decide +kernel
theorem dX7_ahead_2 : decode cX7_ahead 2 = .ok (.invokevirtual 176, 3) := by decide +kernel
theorem dX7_ahead_5 : decode cX7_ahead 5 = .ok (.ifCond .eq 15, 3) := by decide +kernel
theorem dX7_ahead_8 : decode cX7_ahead 8 = .ok (.iload_n 2, 1) := by decide +kernel
theorem dX7_ahead_9 : decode cX7_ahead 9 = .ok (.i2l, 1) := by decide +kernel
theorem dX7_ahead_10 : decode cX7_ahead 10 = .ok (.lconst 0, 1) := by decide +kernel
theorem dX7_ahead_11 : decode cX7_ahead 11 = .ok (.ldc2_w 201, 3) := by decide +kernel
theorem dX7_ahead_14 : decode cX7_ahead 14 = .ok (.invokestatic 72, 3) := by decide +kernel
theorem dX7_ahead_17 : decode cX7_ahead 17 = .ok (.ifCond .ne 5, 3) := by decide +kernel
theorem dX7_ahead_20 : decode cX7_ahead 20 = .ok (.iconst (-1), 1) := by decide +kernel
theorem dX7_ahead_21 : decode cX7_ahead 21 = .ok (.ireturn, 1) := by decide +kernel
theorem dX7_ahead_22 : decode cX7_ahead 22 = .ok (.aload_n 0, 1) := by decide +kernel
theorem dX7_ahead_23 : decode cX7_ahead 23 = .ok (.invokevirtual 170, 3) := by decide +kernel
theorem dX7_ahead_26 : decode cX7_ahead 26 = .ok (.aload_n 0, 1) := by decide +kernel
theorem dX7_ahead_27 : decode cX7_ahead 27 = .ok (.iload_n 2, 1) := by decide +kernel
theorem dX7_ahead_28 : decode cX7_ahead 28 = .ok (.invokevirtual 167, 3) := by decide +kernel
theorem dX7_ahead_31 : decode cX7_ahead 31 = .ok (.aload_n 0, 1) := by decide +kernel
theorem dX7_ahead_32 : decode cX7_ahead 32 = .ok (.getfield 13, 3) := by decide +kernel
theorem dX7_ahead_35 : decode cX7_ahead 35 = .ok (.iconst 5, 1) := by decide +kernel
theorem dX7_ahead_36 : decode cX7_ahead 36 = .ok (.iload_n 1, 1) := by decide +kernel
theorem dX7_ahead_37 : decode cX7_ahead 37 = .ok (.iadd, 1) := by decide +kernel
theorem dX7_ahead_38 : decode cX7_ahead 38 = .ok (.iaload, 1) := by decide +kernel
theorem dX7_ahead_39 : decode cX7_ahead 39 = .ok (.ireturn, 1) := by decide +kernel
theorem dX7_bare_0 : decode cX7_bare 0 = .ok (.aload_n 0, 1) := by decide +kernel
theorem dX7_bare_1 : decode cX7_bare 1 = .ok (.iload_n 1, 1) := by decide +kernel
theorem dX7_bare_2 : decode cX7_bare 2 = .ok (.invokevirtual 176, 3) := by decide +kernel
theorem dX7_bare_5 : decode cX7_bare 5 = .ok (.ifCond .ne 5, 3) := by decide +kernel
theorem dX7_bare_8 : decode cX7_bare 8 = .ok (.iconst (-1), 1) := by decide +kernel
theorem dX7_bare_9 : decode cX7_bare 9 = .ok (.ireturn, 1) := by decide +kernel
theorem dX7_bare_10 : decode cX7_bare 10 = .ok (.aload_n 0, 1) := by decide +kernel
theorem dX7_bare_11 : decode cX7_bare 11 = .ok (.invokevirtual 170, 3) := by decide +kernel
theorem dX7_bare_14 : decode cX7_bare 14 = .ok (.iconst 0, 1) := by decide +kernel
theorem dX7_bare_15 : decode cX7_bare 15 = .ok (.istore_n 2, 1) := by decide +kernel
theorem dX7_bare_16 : decode cX7_bare 16 = .ok (.iload_n 2, 1) := by decide +kernel
theorem dX7_bare_17 : decode cX7_bare 17 = .ok (.bipush 60, 2) := by decide +kernel
theorem dX7_bare_19 : decode cX7_bare 19 = .ok (.if_icmp .gt 26, 3) := by decide +kernel
theorem dX7_bare_22 : decode cX7_bare 22 = .ok (.aload_n 0, 1) := by decide +kernel
theorem dX7_bare_23 : decode cX7_bare 23 = .ok (.getfield 13, 3) := by decide +kernel
theorem dX7_bare_26 : decode cX7_bare 26 = .ok (.iconst 5, 1) := by decide +kernel
theorem dX7_bare_27 : decode cX7_bare 27 = .ok (.iload_n 1, 1) := by decide +kernel
theorem dX7_bare_28 : decode cX7_bare 28 = .ok (.iadd, 1) := by decide +kernel
theorem dX7_bare_29 : decode cX7_bare 29 = .ok (.iaload, 1) := by decide +kernel
theorem dX7_bare_30 : decode cX7_bare 30 = .ok (.ifCond .ne 5, 3) := by decide +kernel
theorem dX7_bare_33 : decode cX7_bare 33 = .ok (.iload_n 2, 1) := by decide +kernel
theorem dX7_bare_34 : decode cX7_bare 34 = .ok (.ireturn, 1) := by decide +kernel
theorem dX7_bare_35 : decode cX7_bare 35 = .ok (.aload_n 0, 1) := by decide +kernel
theorem dX7_bare_36 : decode cX7_bare 36 = .ok (.invokevirtual 164, 3) := by decide +kernel
theorem dX7_bare_39 : decode cX7_bare 39 = .ok (.iinc 2 1, 3) := by decide +kernel
theorem dX7_bare_42 : decode cX7_bare 42 = .ok (.goto (-26), 3) := by decide +kernel
theorem dX7_bare_45 : decode cX7_bare 45 = .ok (.bipush (-4), 2) := by decide +kernel
theorem dX7_bare_47 : decode cX7_bare 47 = .ok (.ireturn, 1) := by decide +kernel
theorem dX7_numbers_0 : decode cX7_numbers 0 = .ok (.iconst 1, 1) := by decide +kernel
theorem dX7_numbers_1 : decode cX7_numbers 1 = .ok (.iconst 2, 1) := by decide +kernel
theorem dX7_numbers_2 : decode cX7_numbers 2 = .ok (.aload_n 0, 1) := by decide +kernel
theorem dX7_numbers_3 : decode cX7_numbers 3 = .ok (.getfield 67, 3) := by decide +kernel
theorem dX7_numbers_6 : decode cX7_numbers 6 = .ok (.imul, 1) := by decide +kernel
theorem dX7_numbers_7 : decode cX7_numbers 7 = .ok (.ishl, 1) := by decide +kernel
theorem dX7_numbers_8 : decode cX7_numbers 8 = .ok (.ireturn, 1) := by decide +kernel
theorem dX7_startsBy_0 : decode cX7_startsBy 0 = .ok (.iload_n 1, 1) := by decide +kernel
theorem dX7_startsBy_1 : decode cX7_startsBy 1 = .ok (.istore_n 2, 1) := by decide +kernel
theorem dX7_startsBy_2 : decode cX7_startsBy 2 = .ok (.aload_n 0, 1) := by decide +kernel
theorem dX7_startsBy_3 : decode cX7_startsBy 3 = .ok (.invokevirtual 170, 3) := by decide +kernel
theorem dX7_startsBy_6 : decode cX7_startsBy 6 = .ok (.aload_n 0, 1) := by decide +kernel
theorem dX7_startsBy_7 : decode cX7_startsBy 7 = .ok (.getfield 67, 3) := by decide +kernel
theorem dX7_startsBy_10 : decode cX7_startsBy 10 = .ok (.iconst 1, 1) := by decide +kernel
theorem dX7_startsBy_11 : decode cX7_startsBy 11 = .ok (.isub, 1) := by decide +kernel
theorem dX7_startsBy_12 : decode cX7_startsBy 12 = .ok (.istore_n 3, 1) := by decide +kernel
theorem dX7_startsBy_13 : decode cX7_startsBy 13 = .ok (.iload_n 3, 1) := by decide +kernel
theorem dX7_startsBy_14 : decode cX7_startsBy 14 = .ok (.ifCond .lt 24, 3) := by decide +kernel
theorem dX7_startsBy_17 : decode cX7_startsBy 17 = .ok (.aload_n 0, 1) := by decide +kernel
theorem dX7_startsBy_18 : decode cX7_startsBy 18 = .ok (.getfield 13, 3) := by decide +kernel
theorem dX7_startsBy_21 : decode cX7_startsBy 21 = .ok (.iconst 0, 1) := by decide +kernel
theorem dX7_startsBy_22 : decode cX7_startsBy 22 = .ok (.iload_n 3, 1) := by decide +kernel
theorem dX7_startsBy_23 : decode cX7_startsBy 23 = .ok (.iadd, 1) := by decide +kernel
theorem dX7_startsBy_24 : decode cX7_startsBy 24 = .ok (.iload_n 2, 1) := by decide +kernel
theorem dX7_startsBy_25 : decode cX7_startsBy 25 = .ok (.iconst 4, 1) := by decide +kernel
theorem dX7_startsBy_26 : decode cX7_startsBy 26 = .ok (.irem, 1) := by decide +kernel
theorem dX7_startsBy_27 : decode cX7_startsBy 27 = .ok (.iastore, 1) := by decide +kernel
theorem dX7_startsBy_28 : decode cX7_startsBy 28 = .ok (.iload_n 2, 1) := by decide +kernel
theorem dX7_startsBy_29 : decode cX7_startsBy 29 = .ok (.iconst 4, 1) := by decide +kernel
theorem dX7_startsBy_30 : decode cX7_startsBy 30 = .ok (.idiv, 1) := by decide +kernel
theorem dX7_startsBy_31 : decode cX7_startsBy 31 = .ok (.istore_n 2, 1) := by decide +kernel
theorem dX7_startsBy_32 : decode cX7_startsBy 32 = .ok (.iinc 3 (-1), 3) := by decide +kernel
theorem dX7_startsBy_35 : decode cX7_startsBy 35 = .ok (.goto (-22), 3) := by decide +kernel
theorem dX7_startsBy_38 : decode cX7_startsBy 38 = .ok (.return_, 1) := by decide +kernel
theorem dX7_best_0 : decode cX7_best 0 = .ok (.iload_n 1, 1) := by decide +kernel
theorem dX7_best_1 : decode cX7_best 1 = .ok (.i2l, 1) := by decide +kernel
theorem dX7_best_2 : decode cX7_best 2 = .ok (.lconst 0, 1) := by decide +kernel
theorem dX7_best_3 : decode cX7_best 3 = .ok (.ldc2_w 192, 3) := by decide +kernel
theorem dX7_best_6 : decode cX7_best 6 = .ok (.invokestatic 72, 3) := by decide +kernel
theorem dX7_best_9 : decode cX7_best 9 = .ok (.ifCond .eq 18, 3) := by decide +kernel
theorem dX7_best_12 : decode cX7_best 12 = .ok (.iload_n 2, 1) := by decide +kernel
theorem dX7_best_13 : decode cX7_best 13 = .ok (.ifCond .eq 16, 3) := by decide +kernel
theorem dX7_best_16 : decode cX7_best 16 = .ok (.aload_n 0, 1) := by decide +kernel
theorem dX7_best_17 : decode cX7_best 17 = .ok (.iload_n 2, 1) := by decide +kernel
theorem dX7_best_18 : decode cX7_best 18 = .ok (.bipush 10, 2) := by decide +kernel
theorem dX7_best_20 : decode cX7_best 20 = .ok (.isub, 1) := by decide +kernel
theorem dX7_best_21 : decode cX7_best 21 = .ok (.invokevirtual 176, 3) := by decide +kernel
theorem dX7_best_24 : decode cX7_best 24 = .ok (.ifCond .ne 5, 3) := by decide +kernel
theorem dX7_best_27 : decode cX7_best 27 = .ok (.iconst (-1), 1) := by decide +kernel
theorem dX7_best_28 : decode cX7_best 28 = .ok (.ireturn, 1) := by decide +kernel
theorem dX7_best_29 : decode cX7_best 29 = .ok (.ldc 205, 2) := by decide +kernel
theorem dX7_best_31 : decode cX7_best 31 = .ok (.istore_n 3, 1) := by decide +kernel
theorem dX7_best_32 : decode cX7_best 32 = .ok (.iconst 0, 1) := by decide +kernel
theorem dX7_best_33 : decode cX7_best 33 = .ok (.istore 4, 2) := by decide +kernel
theorem dX7_best_35 : decode cX7_best 35 = .ok (.iconst 0, 1) := by decide +kernel
theorem dX7_best_36 : decode cX7_best 36 = .ok (.istore 5, 2) := by decide +kernel
theorem dX7_best_38 : decode cX7_best 38 = .ok (.iload 5, 2) := by decide +kernel
theorem dX7_best_40 : decode cX7_best 40 = .ok (.aload_n 0, 1) := by decide +kernel
theorem dX7_best_41 : decode cX7_best 41 = .ok (.invokevirtual 206, 3) := by decide +kernel
theorem dX7_best_44 : decode cX7_best 44 = .ok (.if_icmp .ge 44, 3) := by decide +kernel
theorem dX7_best_47 : decode cX7_best 47 = .ok (.aload_n 0, 1) := by decide +kernel
theorem dX7_best_48 : decode cX7_best 48 = .ok (.iload 5, 2) := by decide +kernel
theorem dX7_best_50 : decode cX7_best 50 = .ok (.invokevirtual 209, 3) := by decide +kernel
theorem dX7_best_53 : decode cX7_best 53 = .ok (.aload_n 0, 1) := by decide +kernel
theorem dX7_best_54 : decode cX7_best 54 = .ok (.iload_n 1, 1) := by decide +kernel
theorem dX7_best_55 : decode cX7_best 55 = .ok (.invokevirtual 212, 3) := by decide +kernel
theorem dX7_best_58 : decode cX7_best 58 = .ok (.istore 6, 2) := by decide +kernel
theorem dX7_best_60 : decode cX7_best 60 = .ok (.iload 6, 2) := by decide +kernel
theorem dX7_best_62 : decode cX7_best 62 = .ok (.iload_n 3, 1) := by decide +kernel
theorem dX7_best_63 : decode cX7_best 63 = .ok (.if_icmp .ge 8, 3) := by decide +kernel
theorem dX7_best_66 : decode cX7_best 66 = .ok (.iload 5, 2) := by decide +kernel
theorem dX7_best_68 : decode cX7_best 68 = .ok (.goto 5, 3) := by decide +kernel
theorem dX7_best_71 : decode cX7_best 71 = .ok (.iload 4, 2) := by decide +kernel
theorem dX7_best_73 : decode cX7_best 73 = .ok (.istore 4, 2) := by decide +kernel
theorem dX7_best_75 : decode cX7_best 75 = .ok (.iload 6, 2) := by decide +kernel
theorem dX7_best_77 : decode cX7_best 77 = .ok (.iload_n 3, 1) := by decide +kernel
theorem dX7_best_78 : decode cX7_best 78 = .ok (.invokestatic 151, 3) := by decide +kernel
theorem dX7_best_81 : decode cX7_best 81 = .ok (.istore_n 3, 1) := by decide +kernel
theorem dX7_best_82 : decode cX7_best 82 = .ok (.iinc 5 1, 3) := by decide +kernel
theorem dX7_best_85 : decode cX7_best 85 = .ok (.goto (-47), 3) := by decide +kernel
theorem dX7_best_88 : decode cX7_best 88 = .ok (.aload_n 0, 1) := by decide +kernel
theorem dX7_best_89 : decode cX7_best 89 = .ok (.iload 4, 2) := by decide +kernel
theorem dX7_best_91 : decode cX7_best 91 = .ok (.invokevirtual 209, 3) := by decide +kernel
theorem dX7_best_94 : decode cX7_best 94 = .ok (.iload_n 2, 1) := by decide +kernel
theorem dX7_best_95 : decode cX7_best 95 = .ok (.ifCond .ne 7, 3) := by decide +kernel
theorem dX7_best_98 : decode cX7_best 98 = .ok (.iload_n 3, 1) := by decide +kernel
theorem dX7_best_99 : decode cX7_best 99 = .ok (.goto 14, 3) := by decide +kernel
theorem dX7_best_102 : decode cX7_best 102 = .ok (.aload_n 0, 1) := by decide +kernel
theorem dX7_best_103 : decode cX7_best 103 = .ok (.getfield 13, 3) := by decide +kernel
theorem dX7_best_106 : decode cX7_best 106 = .ok (.iconst 0, 1) := by decide +kernel
theorem dX7_best_107 : decode cX7_best 107 = .ok (.iload_n 2, 1) := by decide +kernel
theorem dX7_best_108 : decode cX7_best 108 = .ok (.iadd, 1) := by decide +kernel
theorem dX7_best_109 : decode cX7_best 109 = .ok (.bipush 10, 2) := by decide +kernel
theorem dX7_best_111 : decode cX7_best 111 = .ok (.isub, 1) := by decide +kernel
theorem dX7_best_112 : decode cX7_best 112 = .ok (.iaload, 1) := by decide +kernel
theorem dX7_best_113 : decode cX7_best 113 = .ok (.ireturn, 1) := by decide +kernel
theorem dX7_change_0 : decode cX7_change 0 = .ok (.iload_n 1, 1) := by decide +kernel
theorem dX7_change_1 : decode cX7_change 1 = .ok (.i2l, 1) := by decide +kernel
theorem dX7_change_2 : decode cX7_change 2 = .ok (.lconst 0, 1) := by decide +kernel
theorem dX7_change_3 : decode cX7_change 3 = .ok (.ldc2_w 192, 3) := by decide +kernel
theorem dX7_change_6 : decode cX7_change 6 = .ok (.invokestatic 72, 3) := by decide +kernel
theorem dX7_change_9 : decode cX7_change 9 = .ok (.ifCond .eq 10, 3) := by decide +kernel
theorem dX7_change_12 : decode cX7_change 12 = .ok (.iload_n 2, 1) := by decide +kernel
theorem dX7_change_13 : decode cX7_change 13 = .ok (.invokestatic 182, 3) := by decide +kernel
theorem dX7_change_16 : decode cX7_change 16 = .ok (.ifCond .ne 5, 3) := by decide +kernel
theorem dX7_change_19 : decode cX7_change 19 = .ok (.iconst (-1), 1) := by decide +kernel
theorem dX7_change_20 : decode cX7_change 20 = .ok (.ireturn, 1) := by decide +kernel
theorem dX7_change_21 : decode cX7_change 21 = .ok (.aload_n 0, 1) := by decide +kernel
theorem dX7_change_22 : decode cX7_change 22 = .ok (.invokevirtual 170, 3) := by decide +kernel
theorem dX7_change_25 : decode cX7_change 25 = .ok (.aload_n 0, 1) := by decide +kernel
theorem dX7_change_26 : decode cX7_change 26 = .ok (.iload_n 1, 1) := by decide +kernel
theorem dX7_change_27 : decode cX7_change 27 = .ok (.invokevirtual 212, 3) := by decide +kernel
theorem dX7_change_30 : decode cX7_change 30 = .ok (.istore_n 3, 1) := by decide +kernel
theorem dX7_change_31 : decode cX7_change 31 = .ok (.bipush (-4), 2) := by decide +kernel
theorem dX7_change_33 : decode cX7_change 33 = .ok (.istore 4, 2) := by decide +kernel
theorem dX7_change_35 : decode cX7_change 35 = .ok (.iconst 0, 1) := by decide +kernel
theorem dX7_change_36 : decode cX7_change 36 = .ok (.istore 5, 2) := by decide +kernel
theorem dX7_change_38 : decode cX7_change 38 = .ok (.iload 5, 2) := by decide +kernel
theorem dX7_change_40 : decode cX7_change 40 = .ok (.aload_n 0, 1) := by decide +kernel
theorem dX7_change_41 : decode cX7_change 41 = .ok (.getfield 67, 3) := by decide +kernel
theorem dX7_change_44 : decode cX7_change 44 = .ok (.if_icmp .ge 74, 3) := by decide +kernel
theorem dX7_change_47 : decode cX7_change 47 = .ok (.iconst 0, 1) := by decide +kernel
theorem dX7_change_48 : decode cX7_change 48 = .ok (.istore 6, 2) := by decide +kernel
theorem dX7_change_50 : decode cX7_change 50 = .ok (.iload 6, 2) := by decide +kernel
theorem dX7_change_52 : decode cX7_change 52 = .ok (.iconst 4, 1) := by decide +kernel
theorem dX7_change_53 : decode cX7_change 53 = .ok (.if_icmp .ge 59, 3) := by decide +kernel
theorem dX7_change_56 : decode cX7_change 56 = .ok (.aload_n 0, 1) := by decide +kernel
theorem dX7_change_57 : decode cX7_change 57 = .ok (.invokevirtual 170, 3) := by decide +kernel
theorem dX7_change_60 : decode cX7_change 60 = .ok (.aload_n 0, 1) := by decide +kernel
theorem dX7_change_61 : decode cX7_change 61 = .ok (.getfield 13, 3) := by decide +kernel
theorem dX7_change_64 : decode cX7_change 64 = .ok (.iconst 0, 1) := by decide +kernel
theorem dX7_change_65 : decode cX7_change 65 = .ok (.iload 5, 2) := by decide +kernel
theorem dX7_change_67 : decode cX7_change 67 = .ok (.iadd, 1) := by decide +kernel
theorem dX7_change_68 : decode cX7_change 68 = .ok (.iload 6, 2) := by decide +kernel
theorem dX7_change_70 : decode cX7_change 70 = .ok (.iastore, 1) := by decide +kernel
theorem dX7_change_71 : decode cX7_change 71 = .ok (.aload_n 0, 1) := by decide +kernel
theorem dX7_change_72 : decode cX7_change 72 = .ok (.iload_n 1, 1) := by decide +kernel
theorem dX7_change_73 : decode cX7_change 73 = .ok (.invokevirtual 212, 3) := by decide +kernel
theorem dX7_change_76 : decode cX7_change 76 = .ok (.istore 7, 2) := by decide +kernel
theorem dX7_change_78 : decode cX7_change 78 = .ok (.iload 7, 2) := by decide +kernel
theorem dX7_change_80 : decode cX7_change 80 = .ok (.iload_n 3, 1) := by decide +kernel
theorem dX7_change_81 : decode cX7_change 81 = .ok (.if_icmp .ge 14, 3) := by decide +kernel
theorem dX7_change_84 : decode cX7_change 84 = .ok (.bipush 10, 2) := by decide +kernel
theorem dX7_change_86 : decode cX7_change 86 = .ok (.iload 5, 2) := by decide +kernel
theorem dX7_change_88 : decode cX7_change 88 = .ok (.imul, 1) := by decide +kernel
theorem dX7_change_89 : decode cX7_change 89 = .ok (.iload 6, 2) := by decide +kernel
theorem dX7_change_91 : decode cX7_change 91 = .ok (.iadd, 1) := by decide +kernel
theorem dX7_change_92 : decode cX7_change 92 = .ok (.goto 5, 3) := by decide +kernel
theorem dX7_change_95 : decode cX7_change 95 = .ok (.iload 4, 2) := by decide +kernel
theorem dX7_change_97 : decode cX7_change 97 = .ok (.istore 4, 2) := by decide +kernel
theorem dX7_change_99 : decode cX7_change 99 = .ok (.iload 7, 2) := by decide +kernel
theorem dX7_change_101 : decode cX7_change 101 = .ok (.iload_n 3, 1) := by decide +kernel
theorem dX7_change_102 : decode cX7_change 102 = .ok (.invokestatic 151, 3) := by decide +kernel
theorem dX7_change_105 : decode cX7_change 105 = .ok (.istore_n 3, 1) := by decide +kernel
theorem dX7_change_106 : decode cX7_change 106 = .ok (.iinc 6 1, 3) := by decide +kernel
theorem dX7_change_109 : decode cX7_change 109 = .ok (.goto (-59), 3) := by decide +kernel
theorem dX7_change_112 : decode cX7_change 112 = .ok (.iinc 5 1, 3) := by decide +kernel
theorem dX7_change_115 : decode cX7_change 115 = .ok (.goto (-77), 3) := by decide +kernel
theorem dX7_change_118 : decode cX7_change 118 = .ok (.iload 4, 2) := by decide +kernel
theorem dX7_change_120 : decode cX7_change 120 = .ok (.bipush (-4), 2) := by decide +kernel
theorem dX7_change_122 : decode cX7_change 122 = .ok (.if_icmp .ne 8, 3) := by decide +kernel
theorem dX7_change_125 : decode cX7_change 125 = .ok (.bipush (-4), 2) := by decide +kernel
theorem dX7_change_127 : decode cX7_change 127 = .ok (.goto 13, 3) := by decide +kernel
theorem dX7_change_130 : decode cX7_change 130 = .ok (.iload_n 2, 1) := by decide +kernel
theorem dX7_change_131 : decode cX7_change 131 = .ok (.ifCond .ne 8, 3) := by decide +kernel
theorem dX7_change_134 : decode cX7_change 134 = .ok (.iload 4, 2) := by decide +kernel
theorem dX7_change_136 : decode cX7_change 136 = .ok (.goto 4, 3) := by decide +kernel
theorem dX7_change_139 : decode cX7_change 139 = .ok (.iload_n 3, 1) := by decide +kernel
theorem dX7_change_140 : decode cX7_change 140 = .ok (.ireturn, 1) := by decide +kernel
theorem dX7_bitsOf_0 : decode cX7_bitsOf 0 = .ok (.iconst 0, 1) := by decide +kernel
theorem dX7_bitsOf_1 : decode cX7_bitsOf 1 = .ok (.istore_n 1, 1) := by decide +kernel
theorem dX7_bitsOf_2 : decode cX7_bitsOf 2 = .ok (.iconst 0, 1) := by decide +kernel
theorem dX7_bitsOf_3 : decode cX7_bitsOf 3 = .ok (.istore_n 2, 1) := by decide +kernel
theorem dX7_bitsOf_4 : decode cX7_bitsOf 4 = .ok (.iload_n 2, 1) := by decide +kernel
theorem dX7_bitsOf_5 : decode cX7_bitsOf 5 = .ok (.iconst 5, 1) := by decide +kernel
theorem dX7_bitsOf_6 : decode cX7_bitsOf 6 = .ok (.if_icmp .ge 17, 3) := by decide +kernel
theorem dX7_bitsOf_9 : decode cX7_bitsOf 9 = .ok (.iload_n 1, 1) := by decide +kernel
theorem dX7_bitsOf_10 : decode cX7_bitsOf 10 = .ok (.iload_n 0, 1) := by decide +kernel
theorem dX7_bitsOf_11 : decode cX7_bitsOf 11 = .ok (.iload_n 2, 1) := by decide +kernel
theorem dX7_bitsOf_12 : decode cX7_bitsOf 12 = .ok (.ishr, 1) := by decide +kernel
theorem dX7_bitsOf_13 : decode cX7_bitsOf 13 = .ok (.iconst 1, 1) := by decide +kernel
theorem dX7_bitsOf_14 : decode cX7_bitsOf 14 = .ok (.iand, 1) := by decide +kernel
theorem dX7_bitsOf_15 : decode cX7_bitsOf 15 = .ok (.iadd, 1) := by decide +kernel
theorem dX7_bitsOf_16 : decode cX7_bitsOf 16 = .ok (.istore_n 1, 1) := by decide +kernel
theorem dX7_bitsOf_17 : decode cX7_bitsOf 17 = .ok (.iinc 2 1, 3) := by decide +kernel
theorem dX7_bitsOf_20 : decode cX7_bitsOf 20 = .ok (.goto (-16), 3) := by decide +kernel
theorem dX7_bitsOf_23 : decode cX7_bitsOf 23 = .ok (.iload_n 1, 1) := by decide +kernel
theorem dX7_bitsOf_24 : decode cX7_bitsOf 24 = .ok (.ireturn, 1) := by decide +kernel
theorem dX7_startsWithCooks_0 : decode cX7_startsWithCooks 0 = .ok (.aload_n 0, 1) := by decide +kernel
theorem dX7_startsWithCooks_1 : decode cX7_startsWithCooks 1 = .ok (.invokevirtual 170, 3) := by decide +kernel
theorem dX7_startsWithCooks_4 : decode cX7_startsWithCooks 4 = .ok (.iconst 0, 1) := by decide +kernel
theorem dX7_startsWithCooks_5 : decode cX7_startsWithCooks 5 = .ok (.istore_n 2, 1) := by decide +kernel
theorem dX7_startsWithCooks_6 : decode cX7_startsWithCooks 6 = .ok (.iload_n 2, 1) := by decide +kernel
theorem dX7_startsWithCooks_7 : decode cX7_startsWithCooks 7 = .ok (.aload_n 0, 1) := by decide +kernel
theorem dX7_startsWithCooks_8 : decode cX7_startsWithCooks 8 = .ok (.getfield 67, 3) := by decide +kernel
theorem dX7_startsWithCooks_11 : decode cX7_startsWithCooks 11 = .ok (.if_icmp .ge 38, 3) := by decide +kernel
theorem dX7_startsWithCooks_14 : decode cX7_startsWithCooks 14 = .ok (.aload_n 0, 1) := by decide +kernel
theorem dX7_startsWithCooks_15 : decode cX7_startsWithCooks 15 = .ok (.getfield 13, 3) := by decide +kernel
theorem dX7_startsWithCooks_18 : decode cX7_startsWithCooks 18 = .ok (.iconst 0, 1) := by decide +kernel
theorem dX7_startsWithCooks_19 : decode cX7_startsWithCooks 19 = .ok (.iload_n 2, 1) := by decide +kernel
theorem dX7_startsWithCooks_20 : decode cX7_startsWithCooks 20 = .ok (.iadd, 1) := by decide +kernel
theorem dX7_startsWithCooks_21 : decode cX7_startsWithCooks 21 = .ok (.iload_n 1, 1) := by decide +kernel
theorem dX7_startsWithCooks_22 : decode cX7_startsWithCooks 22 = .ok (.iload_n 2, 1) := by decide +kernel
theorem dX7_startsWithCooks_23 : decode cX7_startsWithCooks 23 = .ok (.ishr, 1) := by decide +kernel
theorem dX7_startsWithCooks_24 : decode cX7_startsWithCooks 24 = .ok (.iconst 1, 1) := by decide +kernel
theorem dX7_startsWithCooks_25 : decode cX7_startsWithCooks 25 = .ok (.iand, 1) := by decide +kernel
theorem dX7_startsWithCooks_26 : decode cX7_startsWithCooks 26 = .ok (.iconst 1, 1) := by decide +kernel
theorem dX7_startsWithCooks_27 : decode cX7_startsWithCooks 27 = .ok (.if_icmp .ne 7, 3) := by decide +kernel
theorem dX7_startsWithCooks_30 : decode cX7_startsWithCooks 30 = .ok (.iconst 3, 1) := by decide +kernel
theorem dX7_startsWithCooks_31 : decode cX7_startsWithCooks 31 = .ok (.goto 11, 3) := by decide +kernel
theorem dX7_startsWithCooks_34 : decode cX7_startsWithCooks 34 = .ok (.aload_n 0, 1) := by decide +kernel
theorem dX7_startsWithCooks_35 : decode cX7_startsWithCooks 35 = .ok (.getfield 13, 3) := by decide +kernel
theorem dX7_startsWithCooks_38 : decode cX7_startsWithCooks 38 = .ok (.iconst 0, 1) := by decide +kernel
theorem dX7_startsWithCooks_39 : decode cX7_startsWithCooks 39 = .ok (.iload_n 2, 1) := by decide +kernel
theorem dX7_startsWithCooks_40 : decode cX7_startsWithCooks 40 = .ok (.iadd, 1) := by decide +kernel
theorem dX7_startsWithCooks_41 : decode cX7_startsWithCooks 41 = .ok (.iaload, 1) := by decide +kernel
theorem dX7_startsWithCooks_42 : decode cX7_startsWithCooks 42 = .ok (.iastore, 1) := by decide +kernel
theorem dX7_startsWithCooks_43 : decode cX7_startsWithCooks 43 = .ok (.iinc 2 1, 3) := by decide +kernel
theorem dX7_startsWithCooks_46 : decode cX7_startsWithCooks 46 = .ok (.goto (-40), 3) := by decide +kernel
theorem dX7_startsWithCooks_49 : decode cX7_startsWithCooks 49 = .ok (.return_, 1) := by decide +kernel
theorem dX7_cooks_0 : decode cX7_cooks 0 = .ok (.iload_n 1, 1) := by decide +kernel
theorem dX7_cooks_1 : decode cX7_cooks 1 = .ok (.i2l, 1) := by decide +kernel
theorem dX7_cooks_2 : decode cX7_cooks 2 = .ok (.lconst 0, 1) := by decide +kernel
theorem dX7_cooks_3 : decode cX7_cooks 3 = .ok (.ldc2_w 192, 3) := by decide +kernel
theorem dX7_cooks_6 : decode cX7_cooks 6 = .ok (.invokestatic 72, 3) := by decide +kernel
theorem dX7_cooks_9 : decode cX7_cooks 9 = .ok (.ifCond .eq 10, 3) := by decide +kernel
theorem dX7_cooks_12 : decode cX7_cooks 12 = .ok (.iload_n 2, 1) := by decide +kernel
theorem dX7_cooks_13 : decode cX7_cooks 13 = .ok (.invokestatic 182, 3) := by decide +kernel
theorem dX7_cooks_16 : decode cX7_cooks 16 = .ok (.ifCond .ne 5, 3) := by decide +kernel
theorem dX7_cooks_19 : decode cX7_cooks 19 = .ok (.iconst (-1), 1) := by decide +kernel
theorem dX7_cooks_20 : decode cX7_cooks 20 = .ok (.ireturn, 1) := by decide +kernel
theorem dX7_cooks_21 : decode cX7_cooks 21 = .ok (.iconst 0, 1) := by decide +kernel
theorem dX7_cooks_22 : decode cX7_cooks 22 = .ok (.istore_n 3, 1) := by decide +kernel
theorem dX7_cooks_23 : decode cX7_cooks 23 = .ok (.iconst 0, 1) := by decide +kernel
theorem dX7_cooks_24 : decode cX7_cooks 24 = .ok (.istore 4, 2) := by decide +kernel
theorem dX7_cooks_26 : decode cX7_cooks 26 = .ok (.iload 4, 2) := by decide +kernel
theorem dX7_cooks_28 : decode cX7_cooks 28 = .ok (.aload_n 0, 1) := by decide +kernel
theorem dX7_cooks_29 : decode cX7_cooks 29 = .ok (.getfield 67, 3) := by decide +kernel
theorem dX7_cooks_32 : decode cX7_cooks 32 = .ok (.if_icmp .ge 36, 3) := by decide +kernel
theorem dX7_cooks_35 : decode cX7_cooks 35 = .ok (.iload_n 3, 1) := by decide +kernel
theorem dX7_cooks_36 : decode cX7_cooks 36 = .ok (.aload_n 0, 1) := by decide +kernel
theorem dX7_cooks_37 : decode cX7_cooks 37 = .ok (.getfield 7, 3) := by decide +kernel
theorem dX7_cooks_40 : decode cX7_cooks 40 = .ok (.iconst 0, 1) := by decide +kernel
theorem dX7_cooks_41 : decode cX7_cooks 41 = .ok (.iload 4, 2) := by decide +kernel
theorem dX7_cooks_43 : decode cX7_cooks 43 = .ok (.iadd, 1) := by decide +kernel
theorem dX7_cooks_44 : decode cX7_cooks 44 = .ok (.iaload, 1) := by decide +kernel
theorem dX7_cooks_45 : decode cX7_cooks 45 = .ok (.iconst 3, 1) := by decide +kernel
theorem dX7_cooks_46 : decode cX7_cooks 46 = .ok (.if_icmp .ne 7, 3) := by decide +kernel
theorem dX7_cooks_49 : decode cX7_cooks 49 = .ok (.iconst 1, 1) := by decide +kernel
theorem dX7_cooks_50 : decode cX7_cooks 50 = .ok (.goto 4, 3) := by decide +kernel
theorem dX7_cooks_53 : decode cX7_cooks 53 = .ok (.iconst 0, 1) := by decide +kernel
theorem dX7_cooks_54 : decode cX7_cooks 54 = .ok (.invokestatic 215, 3) := by decide +kernel
theorem dX7_cooks_57 : decode cX7_cooks 57 = .ok (.iload 4, 2) := by decide +kernel
theorem dX7_cooks_59 : decode cX7_cooks 59 = .ok (.ishl, 1) := by decide +kernel
theorem dX7_cooks_60 : decode cX7_cooks 60 = .ok (.ior, 1) := by decide +kernel
theorem dX7_cooks_61 : decode cX7_cooks 61 = .ok (.istore_n 3, 1) := by decide +kernel
theorem dX7_cooks_62 : decode cX7_cooks 62 = .ok (.iinc 4 1, 3) := by decide +kernel
theorem dX7_cooks_65 : decode cX7_cooks 65 = .ok (.goto (-39), 3) := by decide +kernel
theorem dX7_cooks_68 : decode cX7_cooks 68 = .ok (.ldc 205, 2) := by decide +kernel
theorem dX7_cooks_70 : decode cX7_cooks 70 = .ok (.istore 4, 2) := by decide +kernel
theorem dX7_cooks_72 : decode cX7_cooks 72 = .ok (.bipush (-4), 2) := by decide +kernel
theorem dX7_cooks_74 : decode cX7_cooks 74 = .ok (.istore 5, 2) := by decide +kernel
theorem dX7_cooks_76 : decode cX7_cooks 76 = .ok (.iconst 0, 1) := by decide +kernel
theorem dX7_cooks_77 : decode cX7_cooks 77 = .ok (.istore 6, 2) := by decide +kernel
theorem dX7_cooks_79 : decode cX7_cooks 79 = .ok (.iload 6, 2) := by decide +kernel
theorem dX7_cooks_81 : decode cX7_cooks 81 = .ok (.iconst 1, 1) := by decide +kernel
theorem dX7_cooks_82 : decode cX7_cooks 82 = .ok (.aload_n 0, 1) := by decide +kernel
theorem dX7_cooks_83 : decode cX7_cooks 83 = .ok (.getfield 67, 3) := by decide +kernel
theorem dX7_cooks_86 : decode cX7_cooks 86 = .ok (.ishl, 1) := by decide +kernel
theorem dX7_cooks_87 : decode cX7_cooks 87 = .ok (.if_icmp .ge 92, 3) := by decide +kernel
theorem dX7_cooks_90 : decode cX7_cooks 90 = .ok (.iload 6, 2) := by decide +kernel
theorem dX7_cooks_92 : decode cX7_cooks 92 = .ok (.iload_n 3, 1) := by decide +kernel
theorem dX7_cooks_93 : decode cX7_cooks 93 = .ok (.iand, 1) := by decide +kernel
theorem dX7_cooks_94 : decode cX7_cooks 94 = .ok (.ifCond .ne 79, 3) := by decide +kernel
theorem dX7_cooks_97 : decode cX7_cooks 97 = .ok (.iload 6, 2) := by decide +kernel
theorem dX7_cooks_99 : decode cX7_cooks 99 = .ok (.invokestatic 219, 3) := by decide +kernel
theorem dX7_cooks_102 : decode cX7_cooks 102 = .ok (.iload 4, 2) := by decide +kernel
theorem dX7_cooks_104 : decode cX7_cooks 104 = .ok (.if_icmp .ge 69, 3) := by decide +kernel
theorem dX7_cooks_107 : decode cX7_cooks 107 = .ok (.aload_n 0, 1) := by decide +kernel
theorem dX7_cooks_108 : decode cX7_cooks 108 = .ok (.iload 6, 2) := by decide +kernel
theorem dX7_cooks_110 : decode cX7_cooks 110 = .ok (.invokevirtual 222, 3) := by decide +kernel
theorem dX7_cooks_113 : decode cX7_cooks 113 = .ok (.aload_n 0, 1) := by decide +kernel
theorem dX7_cooks_114 : decode cX7_cooks 114 = .ok (.iload_n 1, 1) := by decide +kernel
theorem dX7_cooks_115 : decode cX7_cooks 115 = .ok (.invokevirtual 167, 3) := by decide +kernel
theorem dX7_cooks_118 : decode cX7_cooks 118 = .ok (.aload_n 0, 1) := by decide +kernel
theorem dX7_cooks_119 : decode cX7_cooks 119 = .ok (.getfield 13, 3) := by decide +kernel
theorem dX7_cooks_122 : decode cX7_cooks 122 = .ok (.bipush 20, 2) := by decide +kernel
theorem dX7_cooks_124 : decode cX7_cooks 124 = .ok (.iaload, 1) := by decide +kernel
theorem dX7_cooks_125 : decode cX7_cooks 125 = .ok (.aload_n 0, 1) := by decide +kernel
theorem dX7_cooks_126 : decode cX7_cooks 126 = .ok (.getfield 7, 3) := by decide +kernel
theorem dX7_cooks_129 : decode cX7_cooks 129 = .ok (.bipush 20, 2) := by decide +kernel
theorem dX7_cooks_131 : decode cX7_cooks 131 = .ok (.iaload, 1) := by decide +kernel
theorem dX7_cooks_132 : decode cX7_cooks 132 = .ok (.if_icmp .ne 7, 3) := by decide +kernel
theorem dX7_cooks_135 : decode cX7_cooks 135 = .ok (.iconst 1, 1) := by decide +kernel
theorem dX7_cooks_136 : decode cX7_cooks 136 = .ok (.goto 4, 3) := by decide +kernel
theorem dX7_cooks_139 : decode cX7_cooks 139 = .ok (.iconst 0, 1) := by decide +kernel
theorem dX7_cooks_140 : decode cX7_cooks 140 = .ok (.istore 7, 2) := by decide +kernel
theorem dX7_cooks_142 : decode cX7_cooks 142 = .ok (.iload 7, 2) := by decide +kernel
theorem dX7_cooks_144 : decode cX7_cooks 144 = .ok (.ifCond .eq 8, 3) := by decide +kernel
theorem dX7_cooks_147 : decode cX7_cooks 147 = .ok (.iload 6, 2) := by decide +kernel
theorem dX7_cooks_149 : decode cX7_cooks 149 = .ok (.goto 5, 3) := by decide +kernel
theorem dX7_cooks_152 : decode cX7_cooks 152 = .ok (.iload 5, 2) := by decide +kernel
theorem dX7_cooks_154 : decode cX7_cooks 154 = .ok (.istore 5, 2) := by decide +kernel
theorem dX7_cooks_156 : decode cX7_cooks 156 = .ok (.iload 7, 2) := by decide +kernel
theorem dX7_cooks_158 : decode cX7_cooks 158 = .ok (.ifCond .eq 11, 3) := by decide +kernel
theorem dX7_cooks_161 : decode cX7_cooks 161 = .ok (.iload 6, 2) := by decide +kernel
theorem dX7_cooks_163 : decode cX7_cooks 163 = .ok (.invokestatic 219, 3) := by decide +kernel
theorem dX7_cooks_166 : decode cX7_cooks 166 = .ok (.goto 5, 3) := by decide +kernel
theorem dX7_cooks_169 : decode cX7_cooks 169 = .ok (.iload 4, 2) := by decide +kernel
theorem dX7_cooks_171 : decode cX7_cooks 171 = .ok (.istore 4, 2) := by decide +kernel
theorem dX7_cooks_173 : decode cX7_cooks 173 = .ok (.iinc 6 1, 3) := by decide +kernel
theorem dX7_cooks_176 : decode cX7_cooks 176 = .ok (.goto (-97), 3) := by decide +kernel
theorem dX7_cooks_179 : decode cX7_cooks 179 = .ok (.iload 5, 2) := by decide +kernel
theorem dX7_cooks_181 : decode cX7_cooks 181 = .ok (.bipush (-4), 2) := by decide +kernel
theorem dX7_cooks_183 : decode cX7_cooks 183 = .ok (.if_icmp .ne 8, 3) := by decide +kernel
theorem dX7_cooks_186 : decode cX7_cooks 186 = .ok (.bipush (-4), 2) := by decide +kernel
theorem dX7_cooks_188 : decode cX7_cooks 188 = .ok (.goto 14, 3) := by decide +kernel
theorem dX7_cooks_191 : decode cX7_cooks 191 = .ok (.iload_n 2, 1) := by decide +kernel
theorem dX7_cooks_192 : decode cX7_cooks 192 = .ok (.ifCond .ne 8, 3) := by decide +kernel
theorem dX7_cooks_195 : decode cX7_cooks 195 = .ok (.iload 4, 2) := by decide +kernel
theorem dX7_cooks_197 : decode cX7_cooks 197 = .ok (.goto 5, 3) := by decide +kernel
theorem dX7_cooks_200 : decode cX7_cooks 200 = .ok (.iload 5, 2) := by decide +kernel
theorem dX7_cooks_202 : decode cX7_cooks 202 = .ok (.ireturn, 1) := by decide +kernel
theorem dX7_appease_0 : decode cX7_appease 0 = .ok (.aload_n 0, 1) := by decide +kernel
theorem dX7_appease_1 : decode cX7_appease 1 = .ok (.iload_n 1, 1) := by decide +kernel
theorem dX7_appease_2 : decode cX7_appease 2 = .ok (.invokevirtual 176, 3) := by decide +kernel
theorem dX7_appease_5 : decode cX7_appease 5 = .ok (.ifCond .eq 15, 3) := by decide +kernel
theorem dX7_appease_8 : decode cX7_appease 8 = .ok (.iload_n 2, 1) := by decide +kernel
theorem dX7_appease_9 : decode cX7_appease 9 = .ok (.i2l, 1) := by decide +kernel
theorem dX7_appease_10 : decode cX7_appease 10 = .ok (.lconst 0, 1) := by decide +kernel
theorem dX7_appease_11 : decode cX7_appease 11 = .ok (.ldc2_w 192, 3) := by decide +kernel
theorem dX7_appease_14 : decode cX7_appease 14 = .ok (.invokestatic 72, 3) := by decide +kernel
theorem dX7_appease_17 : decode cX7_appease 17 = .ok (.ifCond .ne 5, 3) := by decide +kernel
theorem dX7_appease_20 : decode cX7_appease 20 = .ok (.iconst (-1), 1) := by decide +kernel
theorem dX7_appease_21 : decode cX7_appease 21 = .ok (.ireturn, 1) := by decide +kernel
theorem dX7_appease_22 : decode cX7_appease 22 = .ok (.iconst 0, 1) := by decide +kernel
theorem dX7_appease_23 : decode cX7_appease 23 = .ok (.istore_n 3, 1) := by decide +kernel
theorem dX7_appease_24 : decode cX7_appease 24 = .ok (.iload_n 3, 1) := by decide +kernel
theorem dX7_appease_25 : decode cX7_appease 25 = .ok (.bipush 20, 2) := by decide +kernel
theorem dX7_appease_27 : decode cX7_appease 27 = .ok (.if_icmp .gt 127, 3) := by decide +kernel
theorem dX7_appease_30 : decode cX7_appease 30 = .ok (.iload_n 3, 1) := by decide +kernel
theorem dX7_appease_31 : decode cX7_appease 31 = .ok (.aload_n 0, 1) := by decide +kernel
theorem dX7_appease_32 : decode cX7_appease 32 = .ok (.getfield 7, 3) := by decide +kernel
theorem dX7_appease_35 : decode cX7_appease 35 = .ok (.iconst 5, 1) := by decide +kernel
theorem dX7_appease_36 : decode cX7_appease 36 = .ok (.iload_n 1, 1) := by decide +kernel
theorem dX7_appease_37 : decode cX7_appease 37 = .ok (.iadd, 1) := by decide +kernel
theorem dX7_appease_38 : decode cX7_appease 38 = .ok (.iaload, 1) := by decide +kernel
theorem dX7_appease_39 : decode cX7_appease 39 = .ok (.if_icmp .gt 115, 3) := by decide +kernel
theorem dX7_appease_42 : decode cX7_appease 42 = .ok (.aload_n 0, 1) := by decide +kernel
theorem dX7_appease_43 : decode cX7_appease 43 = .ok (.invokevirtual 170, 3) := by decide +kernel
theorem dX7_appease_46 : decode cX7_appease 46 = .ok (.aload_n 0, 1) := by decide +kernel
theorem dX7_appease_47 : decode cX7_appease 47 = .ok (.iload_n 1, 1) := by decide +kernel
theorem dX7_appease_48 : decode cX7_appease 48 = .ok (.iload_n 3, 1) := by decide +kernel
theorem dX7_appease_49 : decode cX7_appease 49 = .ok (.invokevirtual 157, 3) := by decide +kernel
theorem dX7_appease_52 : decode cX7_appease 52 = .ok (.iconst 0, 1) := by decide +kernel
theorem dX7_appease_53 : decode cX7_appease 53 = .ok (.istore 4, 2) := by decide +kernel
theorem dX7_appease_55 : decode cX7_appease 55 = .ok (.iconst 0, 1) := by decide +kernel
theorem dX7_appease_56 : decode cX7_appease 56 = .ok (.istore 5, 2) := by decide +kernel
theorem dX7_appease_58 : decode cX7_appease 58 = .ok (.iload 5, 2) := by decide +kernel
theorem dX7_appease_60 : decode cX7_appease 60 = .ok (.iload_n 2, 1) := by decide +kernel
theorem dX7_appease_61 : decode cX7_appease 61 = .ok (.if_icmp .ge 80, 3) := by decide +kernel
theorem dX7_appease_64 : decode cX7_appease 64 = .ok (.aload_n 0, 1) := by decide +kernel
theorem dX7_appease_65 : decode cX7_appease 65 = .ok (.getfield 13, 3) := by decide +kernel
theorem dX7_appease_68 : decode cX7_appease 68 = .ok (.bipush 10, 2) := by decide +kernel
theorem dX7_appease_70 : decode cX7_appease 70 = .ok (.iload_n 1, 1) := by decide +kernel
theorem dX7_appease_71 : decode cX7_appease 71 = .ok (.iadd, 1) := by decide +kernel
theorem dX7_appease_72 : decode cX7_appease 72 = .ok (.iaload, 1) := by decide +kernel
theorem dX7_appease_73 : decode cX7_appease 73 = .ok (.istore 6, 2) := by decide +kernel
theorem dX7_appease_75 : decode cX7_appease 75 = .ok (.aload_n 0, 1) := by decide +kernel
theorem dX7_appease_76 : decode cX7_appease 76 = .ok (.getfield 13, 3) := by decide +kernel
theorem dX7_appease_79 : decode cX7_appease 79 = .ok (.bipush 21, 2) := by decide +kernel
theorem dX7_appease_81 : decode cX7_appease 81 = .ok (.iaload, 1) := by decide +kernel
theorem dX7_appease_82 : decode cX7_appease 82 = .ok (.istore 7, 2) := by decide +kernel
theorem dX7_appease_84 : decode cX7_appease 84 = .ok (.aload_n 0, 1) := by decide +kernel
theorem dX7_appease_85 : decode cX7_appease 85 = .ok (.getfield 13, 3) := by decide +kernel
theorem dX7_appease_88 : decode cX7_appease 88 = .ok (.bipush 15, 2) := by decide +kernel
theorem dX7_appease_90 : decode cX7_appease 90 = .ok (.iaload, 1) := by decide +kernel
theorem dX7_appease_91 : decode cX7_appease 91 = .ok (.istore 8, 2) := by decide +kernel
theorem dX7_appease_93 : decode cX7_appease 93 = .ok (.aload_n 0, 1) := by decide +kernel
theorem dX7_appease_94 : decode cX7_appease 94 = .ok (.invokevirtual 164, 3) := by decide +kernel
theorem dX7_appease_97 : decode cX7_appease 97 = .ok (.iload 4, 2) := by decide +kernel
theorem dX7_appease_99 : decode cX7_appease 99 = .ok (.aload_n 0, 1) := by decide +kernel
theorem dX7_appease_100 : decode cX7_appease 100 = .ok (.getfield 13, 3) := by decide +kernel
theorem dX7_appease_103 : decode cX7_appease 103 = .ok (.bipush 10, 2) := by decide +kernel
theorem dX7_appease_105 : decode cX7_appease 105 = .ok (.iload_n 1, 1) := by decide +kernel
theorem dX7_appease_106 : decode cX7_appease 106 = .ok (.iadd, 1) := by decide +kernel
theorem dX7_appease_107 : decode cX7_appease 107 = .ok (.iaload, 1) := by decide +kernel
theorem dX7_appease_108 : decode cX7_appease 108 = .ok (.iload 6, 2) := by decide +kernel
theorem dX7_appease_110 : decode cX7_appease 110 = .ok (.isub, 1) := by decide +kernel
theorem dX7_appease_111 : decode cX7_appease 111 = .ok (.iload 8, 2) := by decide +kernel
theorem dX7_appease_113 : decode cX7_appease 113 = .ok (.iload_n 1, 1) := by decide +kernel
theorem dX7_appease_114 : decode cX7_appease 114 = .ok (.if_icmp .ne 16, 3) := by decide +kernel
theorem dX7_appease_117 : decode cX7_appease 117 = .ok (.aload_n 0, 1) := by decide +kernel
theorem dX7_appease_118 : decode cX7_appease 118 = .ok (.getfield 13, 3) := by decide +kernel
theorem dX7_appease_121 : decode cX7_appease 121 = .ok (.bipush 21, 2) := by decide +kernel
theorem dX7_appease_123 : decode cX7_appease 123 = .ok (.iaload, 1) := by decide +kernel
theorem dX7_appease_124 : decode cX7_appease 124 = .ok (.iload 7, 2) := by decide +kernel
theorem dX7_appease_126 : decode cX7_appease 126 = .ok (.isub, 1) := by decide +kernel
theorem dX7_appease_127 : decode cX7_appease 127 = .ok (.goto 4, 3) := by decide +kernel
theorem dX7_appease_130 : decode cX7_appease 130 = .ok (.iconst 0, 1) := by decide +kernel
theorem dX7_appease_131 : decode cX7_appease 131 = .ok (.isub, 1) := by decide +kernel
theorem dX7_appease_132 : decode cX7_appease 132 = .ok (.iadd, 1) := by decide +kernel
theorem dX7_appease_133 : decode cX7_appease 133 = .ok (.istore 4, 2) := by decide +kernel
theorem dX7_appease_135 : decode cX7_appease 135 = .ok (.iinc 5 1, 3) := by decide +kernel
theorem dX7_appease_138 : decode cX7_appease 138 = .ok (.goto (-80), 3) := by decide +kernel
theorem dX7_appease_141 : decode cX7_appease 141 = .ok (.iload 4, 2) := by decide +kernel
theorem dX7_appease_143 : decode cX7_appease 143 = .ok (.ifCond .ne 5, 3) := by decide +kernel
theorem dX7_appease_146 : decode cX7_appease 146 = .ok (.iload_n 3, 1) := by decide +kernel
theorem dX7_appease_147 : decode cX7_appease 147 = .ok (.ireturn, 1) := by decide +kernel
theorem dX7_appease_148 : decode cX7_appease 148 = .ok (.iinc 3 1, 3) := by decide +kernel
theorem dX7_appease_151 : decode cX7_appease 151 = .ok (.goto (-127), 3) := by decide +kernel
theorem dX7_appease_154 : decode cX7_appease 154 = .ok (.bipush (-4), 2) := by decide +kernel
theorem dX7_appease_156 : decode cX7_appease 156 = .ok (.ireturn, 1) := by decide +kernel
theorem dX7_pray_0 : decode cX7_pray 0 = .ok (.iload_n 1, 1) := by decide +kernel
theorem dX7_pray_1 : decode cX7_pray 1 = .ok (.i2l, 1) := by decide +kernel
theorem dX7_pray_2 : decode cX7_pray 2 = .ok (.lconst 0, 1) := by decide +kernel
theorem dX7_pray_3 : decode cX7_pray 3 = .ok (.ldc2_w 192, 3) := by decide +kernel
theorem dX7_pray_6 : decode cX7_pray 6 = .ok (.invokestatic 72, 3) := by decide +kernel
theorem dX7_pray_9 : decode cX7_pray 9 = .ok (.ifCond .ne 5, 3) := by decide +kernel
theorem dX7_pray_12 : decode cX7_pray 12 = .ok (.iconst (-1), 1) := by decide +kernel
theorem dX7_pray_13 : decode cX7_pray 13 = .ok (.ireturn, 1) := by decide +kernel
theorem dX7_pray_14 : decode cX7_pray 14 = .ok (.aload_n 0, 1) := by decide +kernel
theorem dX7_pray_15 : decode cX7_pray 15 = .ok (.invokevirtual 170, 3) := by decide +kernel
theorem dX7_pray_18 : decode cX7_pray 18 = .ok (.aload_n 0, 1) := by decide +kernel
theorem dX7_pray_19 : decode cX7_pray 19 = .ok (.iload_n 1, 1) := by decide +kernel
theorem dX7_pray_20 : decode cX7_pray 20 = .ok (.invokevirtual 212, 3) := by decide +kernel
theorem dX7_pray_23 : decode cX7_pray 23 = .ok (.istore_n 2, 1) := by decide +kernel
theorem dX7_pray_24 : decode cX7_pray 24 = .ok (.iconst 0, 1) := by decide +kernel
theorem dX7_pray_25 : decode cX7_pray 25 = .ok (.istore_n 3, 1) := by decide +kernel
theorem dX7_pray_26 : decode cX7_pray 26 = .ok (.iconst 0, 1) := by decide +kernel
theorem dX7_pray_27 : decode cX7_pray 27 = .ok (.istore 4, 2) := by decide +kernel
theorem dX7_pray_29 : decode cX7_pray 29 = .ok (.iload 4, 2) := by decide +kernel
theorem dX7_pray_31 : decode cX7_pray 31 = .ok (.bipush 7, 2) := by decide +kernel
theorem dX7_pray_33 : decode cX7_pray 33 = .ok (.if_icmp .ge 50, 3) := by decide +kernel
theorem dX7_pray_36 : decode cX7_pray 36 = .ok (.aload_n 0, 1) := by decide +kernel
theorem dX7_pray_37 : decode cX7_pray 37 = .ok (.invokevirtual 170, 3) := by decide +kernel
theorem dX7_pray_40 : decode cX7_pray 40 = .ok (.aload_n 0, 1) := by decide +kernel
theorem dX7_pray_41 : decode cX7_pray 41 = .ok (.getfield 13, 3) := by decide +kernel
theorem dX7_pray_44 : decode cX7_pray 44 = .ok (.bipush 18, 2) := by decide +kernel
theorem dX7_pray_46 : decode cX7_pray 46 = .ok (.dup2, 1) := by decide +kernel
theorem dX7_pray_47 : decode cX7_pray 47 = .ok (.iaload, 1) := by decide +kernel
theorem dX7_pray_48 : decode cX7_pray 48 = .ok (.iconst 1, 1) := by decide +kernel
theorem dX7_pray_49 : decode cX7_pray 49 = .ok (.iload 4, 2) := by decide +kernel
theorem dX7_pray_51 : decode cX7_pray 51 = .ok (.ishl, 1) := by decide +kernel
theorem dX7_pray_52 : decode cX7_pray 52 = .ok (.ior, 1) := by decide +kernel
theorem dX7_pray_53 : decode cX7_pray 53 = .ok (.iastore, 1) := by decide +kernel
theorem dX7_pray_54 : decode cX7_pray 54 = .ok (.iload_n 3, 1) := by decide +kernel
theorem dX7_pray_55 : decode cX7_pray 55 = .ok (.aload_n 0, 1) := by decide +kernel
theorem dX7_pray_56 : decode cX7_pray 56 = .ok (.iload_n 1, 1) := by decide +kernel
theorem dX7_pray_57 : decode cX7_pray 57 = .ok (.invokevirtual 212, 3) := by decide +kernel
theorem dX7_pray_60 : decode cX7_pray 60 = .ok (.iload_n 2, 1) := by decide +kernel
theorem dX7_pray_61 : decode cX7_pray 61 = .ok (.if_icmp .ge 7, 3) := by decide +kernel
theorem dX7_pray_64 : decode cX7_pray 64 = .ok (.iconst 1, 1) := by decide +kernel
theorem dX7_pray_65 : decode cX7_pray 65 = .ok (.goto 4, 3) := by decide +kernel
theorem dX7_pray_68 : decode cX7_pray 68 = .ok (.iconst 0, 1) := by decide +kernel
theorem dX7_pray_69 : decode cX7_pray 69 = .ok (.invokestatic 215, 3) := by decide +kernel
theorem dX7_pray_72 : decode cX7_pray 72 = .ok (.iload 4, 2) := by decide +kernel
theorem dX7_pray_74 : decode cX7_pray 74 = .ok (.ishl, 1) := by decide +kernel
theorem dX7_pray_75 : decode cX7_pray 75 = .ok (.ior, 1) := by decide +kernel
theorem dX7_pray_76 : decode cX7_pray 76 = .ok (.istore_n 3, 1) := by decide +kernel
theorem dX7_pray_77 : decode cX7_pray 77 = .ok (.iinc 4 1, 3) := by decide +kernel
theorem dX7_pray_80 : decode cX7_pray 80 = .ok (.goto (-51), 3) := by decide +kernel
theorem dX7_pray_83 : decode cX7_pray 83 = .ok (.iload_n 3, 1) := by decide +kernel
theorem dX7_pray_84 : decode cX7_pray 84 = .ok (.ireturn, 1) := by decide +kernel
theorem dX7_valueOf_0 : decode cX7_valueOf 0 = .ok (.aload_n 0, 1) := by decide +kernel
theorem dX7_valueOf_1 : decode cX7_valueOf 1 = .ok (.invokevirtual 170, 3) := by decide +kernel
theorem dX7_valueOf_4 : decode cX7_valueOf 4 = .ok (.aload_n 0, 1) := by decide +kernel
theorem dX7_valueOf_5 : decode cX7_valueOf 5 = .ok (.iload_n 2, 1) := by decide +kernel
theorem dX7_valueOf_6 : decode cX7_valueOf 6 = .ok (.invokevirtual 212, 3) := by decide +kernel
theorem dX7_valueOf_9 : decode cX7_valueOf 9 = .ok (.istore_n 3, 1) := by decide +kernel
theorem dX7_valueOf_10 : decode cX7_valueOf 10 = .ok (.aload_n 0, 1) := by decide +kernel
theorem dX7_valueOf_11 : decode cX7_valueOf 11 = .ok (.iload_n 1, 1) := by decide +kernel
theorem dX7_valueOf_12 : decode cX7_valueOf 12 = .ok (.invokevirtual 222, 3) := by decide +kernel
theorem dX7_valueOf_15 : decode cX7_valueOf 15 = .ok (.iload_n 3, 1) := by decide +kernel
theorem dX7_valueOf_16 : decode cX7_valueOf 16 = .ok (.aload_n 0, 1) := by decide +kernel
theorem dX7_valueOf_17 : decode cX7_valueOf 17 = .ok (.iload_n 2, 1) := by decide +kernel
theorem dX7_valueOf_18 : decode cX7_valueOf 18 = .ok (.invokevirtual 212, 3) := by decide +kernel
theorem dX7_valueOf_21 : decode cX7_valueOf 21 = .ok (.isub, 1) := by decide +kernel
theorem dX7_valueOf_22 : decode cX7_valueOf 22 = .ok (.ireturn, 1) := by decide +kernel
theorem dX7_value_0 : decode cX7_value 0 = .ok (.iload_n 1, 1) := by decide +kernel
theorem dX7_value_1 : decode cX7_value 1 = .ok (.i2l, 1) := by decide +kernel
theorem dX7_value_2 : decode cX7_value 2 = .ok (.lconst 0, 1) := by decide +kernel
theorem dX7_value_3 : decode cX7_value 3 = .ok (.iconst 1, 1) := by decide +kernel
theorem dX7_value_4 : decode cX7_value 4 = .ok (.aload_n 0, 1) := by decide +kernel
theorem dX7_value_5 : decode cX7_value 5 = .ok (.getfield 67, 3) := by decide +kernel
theorem dX7_value_8 : decode cX7_value 8 = .ok (.ishl, 1) := by decide +kernel
theorem dX7_value_9 : decode cX7_value 9 = .ok (.iconst 1, 1) := by decide +kernel
theorem dX7_value_10 : decode cX7_value 10 = .ok (.isub, 1) := by decide +kernel
theorem dX7_value_11 : decode cX7_value 11 = .ok (.i2l, 1) := by decide +kernel
theorem dX7_value_12 : decode cX7_value 12 = .ok (.invokestatic 72, 3) := by decide +kernel
theorem dX7_value_15 : decode cX7_value 15 = .ok (.ifCond .eq 28, 3) := by decide +kernel
theorem dX7_value_18 : decode cX7_value 18 = .ok (.iload_n 2, 1) := by decide +kernel
theorem dX7_value_19 : decode cX7_value 19 = .ok (.i2l, 1) := by decide +kernel
theorem dX7_value_20 : decode cX7_value 20 = .ok (.lconst 0, 1) := by decide +kernel
theorem dX7_value_21 : decode cX7_value 21 = .ok (.ldc2_w 192, 3) := by decide +kernel
theorem dX7_value_24 : decode cX7_value 24 = .ok (.invokestatic 72, 3) := by decide +kernel
theorem dX7_value_27 : decode cX7_value 27 = .ok (.ifCond .eq 16, 3) := by decide +kernel
theorem dX7_value_30 : decode cX7_value 30 = .ok (.sipush 1000, 3) := by decide +kernel
theorem dX7_value_33 : decode cX7_value 33 = .ok (.aload_n 0, 1) := by decide +kernel
theorem dX7_value_34 : decode cX7_value 34 = .ok (.iload_n 1, 1) := by decide +kernel
theorem dX7_value_35 : decode cX7_value 35 = .ok (.iload_n 2, 1) := by decide +kernel
theorem dX7_value_36 : decode cX7_value 36 = .ok (.invokevirtual 225, 3) := by decide +kernel
theorem dX7_value_39 : decode cX7_value 39 = .ok (.iadd, 1) := by decide +kernel
theorem dX7_value_40 : decode cX7_value 40 = .ok (.goto 4, 3) := by decide +kernel
theorem dX7_value_43 : decode cX7_value 43 = .ok (.iconst (-1), 1) := by decide +kernel
theorem dX7_value_44 : decode cX7_value 44 = .ok (.ireturn, 1) := by decide +kernel
theorem dX7_common_0 : decode cX7_common 0 = .ok (.lload_n 0, 1) := by decide +kernel
theorem dX7_common_1 : decode cX7_common 1 = .ok (.lstore 4, 2) := by decide +kernel
theorem dX7_common_3 : decode cX7_common 3 = .ok (.lload_n 2, 1) := by decide +kernel
theorem dX7_common_4 : decode cX7_common 4 = .ok (.lconst 0, 1) := by decide +kernel
theorem dX7_common_5 : decode cX7_common 5 = .ok (.lcmp, 1) := by decide +kernel
theorem dX7_common_6 : decode cX7_common 6 = .ok (.ifCond .ge 8, 3) := by decide +kernel
theorem dX7_common_9 : decode cX7_common 9 = .ok (.lload_n 2, 1) := by decide +kernel
theorem dX7_common_10 : decode cX7_common 10 = .ok (.lneg, 1) := by decide +kernel
theorem dX7_common_11 : decode cX7_common 11 = .ok (.goto 4, 3) := by decide +kernel
theorem dX7_common_14 : decode cX7_common 14 = .ok (.lload_n 2, 1) := by decide +kernel
theorem dX7_common_15 : decode cX7_common 15 = .ok (.lstore 6, 2) := by decide +kernel
theorem dX7_common_17 : decode cX7_common 17 = .ok (.lload 6, 2) := by decide +kernel
theorem dX7_common_19 : decode cX7_common 19 = .ok (.lconst 0, 1) := by decide +kernel
theorem dX7_common_20 : decode cX7_common 20 = .ok (.lcmp, 1) := by decide +kernel
theorem dX7_common_21 : decode cX7_common 21 = .ok (.ifCond .eq 21, 3) := by decide +kernel
theorem dX7_common_24 : decode cX7_common 24 = .ok (.lload 4, 2) := by decide +kernel
theorem dX7_common_26 : decode cX7_common 26 = .ok (.lload 6, 2) := by decide +kernel
theorem dX7_common_28 : decode cX7_common 28 = .ok (.lrem, 1) := by decide +kernel
theorem dX7_common_29 : decode cX7_common 29 = .ok (.lstore 8, 2) := by decide +kernel
theorem dX7_common_31 : decode cX7_common 31 = .ok (.lload 6, 2) := by decide +kernel
theorem dX7_common_33 : decode cX7_common 33 = .ok (.lstore 4, 2) := by decide +kernel
theorem dX7_common_35 : decode cX7_common 35 = .ok (.lload 8, 2) := by decide +kernel
theorem dX7_common_37 : decode cX7_common 37 = .ok (.lstore 6, 2) := by decide +kernel
theorem dX7_common_39 : decode cX7_common 39 = .ok (.goto (-22), 3) := by decide +kernel
theorem dX7_common_42 : decode cX7_common 42 = .ok (.lload 4, 2) := by decide +kernel
theorem dX7_common_44 : decode cX7_common 44 = .ok (.lreturn, 1) := by decide +kernel
theorem dX7_told_0 : decode cX7_told 0 = .ok (.lload_n 2, 1) := by decide +kernel
theorem dX7_told_1 : decode cX7_told 1 = .ok (.lload_n 0, 1) := by decide +kernel
theorem dX7_told_2 : decode cX7_told 2 = .ok (.invokestatic 228, 3) := by decide +kernel
theorem dX7_told_5 : decode cX7_told 5 = .ok (.lstore 5, 2) := by decide +kernel
theorem dX7_told_7 : decode cX7_told 7 = .ok (.iload 4, 2) := by decide +kernel
theorem dX7_told_9 : decode cX7_told 9 = .ok (.ifCond .ne 10, 3) := by decide +kernel
theorem dX7_told_12 : decode cX7_told 12 = .ok (.lload_n 0, 1) := by decide +kernel
theorem dX7_told_13 : decode cX7_told 13 = .ok (.lload 5, 2) := by decide +kernel
theorem dX7_told_15 : decode cX7_told 15 = .ok (.ldiv, 1) := by decide +kernel
theorem dX7_told_16 : decode cX7_told 16 = .ok (.goto 7, 3) := by decide +kernel
theorem dX7_told_19 : decode cX7_told 19 = .ok (.lload_n 2, 1) := by decide +kernel
theorem dX7_told_20 : decode cX7_told 20 = .ok (.lload 5, 2) := by decide +kernel
theorem dX7_told_22 : decode cX7_told 22 = .ok (.ldiv, 1) := by decide +kernel
theorem dX7_told_23 : decode cX7_told 23 = .ok (.lreturn, 1) := by decide +kernel
theorem dX7_orders_0 : decode cX7_orders 0 = .ok (.lconst 1, 1) := by decide +kernel
theorem dX7_orders_1 : decode cX7_orders 1 = .ok (.lstore_n 1, 1) := by decide +kernel
theorem dX7_orders_2 : decode cX7_orders 2 = .ok (.iconst 2, 1) := by decide +kernel
theorem dX7_orders_3 : decode cX7_orders 3 = .ok (.istore_n 3, 1) := by decide +kernel
theorem dX7_orders_4 : decode cX7_orders 4 = .ok (.iload_n 3, 1) := by decide +kernel
theorem dX7_orders_5 : decode cX7_orders 5 = .ok (.iload_n 0, 1) := by decide +kernel
theorem dX7_orders_6 : decode cX7_orders 6 = .ok (.if_icmp .gt 14, 3) := by decide +kernel
theorem dX7_orders_9 : decode cX7_orders 9 = .ok (.lload_n 1, 1) := by decide +kernel
theorem dX7_orders_10 : decode cX7_orders 10 = .ok (.iload_n 3, 1) := by decide +kernel
theorem dX7_orders_11 : decode cX7_orders 11 = .ok (.i2l, 1) := by decide +kernel
theorem dX7_orders_12 : decode cX7_orders 12 = .ok (.lmul, 1) := by decide +kernel
theorem dX7_orders_13 : decode cX7_orders 13 = .ok (.lstore_n 1, 1) := by decide +kernel
theorem dX7_orders_14 : decode cX7_orders 14 = .ok (.iinc 3 1, 3) := by decide +kernel
theorem dX7_orders_17 : decode cX7_orders 17 = .ok (.goto (-13), 3) := by decide +kernel
theorem dX7_orders_20 : decode cX7_orders 20 = .ok (.lload_n 1, 1) := by decide +kernel
theorem dX7_orders_21 : decode cX7_orders 21 = .ok (.lreturn, 1) := by decide +kernel
theorem dX7_share_0 : decode cX7_share 0 = .ok (.aload_n 0, 1) := by decide +kernel
theorem dX7_share_1 : decode cX7_share 1 = .ok (.iload_n 1, 1) := by decide +kernel
theorem dX7_share_2 : decode cX7_share 2 = .ok (.invokevirtual 176, 3) := by decide +kernel
theorem dX7_share_5 : decode cX7_share 5 = .ok (.ifCond .eq 22, 3) := by decide +kernel
theorem dX7_share_8 : decode cX7_share 8 = .ok (.iload_n 2, 1) := by decide +kernel
theorem dX7_share_9 : decode cX7_share 9 = .ok (.i2l, 1) := by decide +kernel
theorem dX7_share_10 : decode cX7_share 10 = .ok (.lconst 0, 1) := by decide +kernel
theorem dX7_share_11 : decode cX7_share 11 = .ok (.ldc2_w 192, 3) := by decide +kernel
theorem dX7_share_14 : decode cX7_share 14 = .ok (.invokestatic 72, 3) := by decide +kernel
theorem dX7_share_17 : decode cX7_share 17 = .ok (.ifCond .eq 10, 3) := by decide +kernel
theorem dX7_share_20 : decode cX7_share 20 = .ok (.iload_n 3, 1) := by decide +kernel
theorem dX7_share_21 : decode cX7_share 21 = .ok (.invokestatic 182, 3) := by decide +kernel
theorem dX7_share_24 : decode cX7_share 24 = .ok (.ifCond .ne 7, 3) := by decide +kernel
theorem dX7_share_27 : decode cX7_share 27 = .ok (.ldc2_w 232, 3) := by decide +kernel
theorem dX7_share_30 : decode cX7_share 30 = .ok (.lreturn, 1) := by decide +kernel
theorem dX7_share_31 : decode cX7_share 31 = .ok (.lconst 0, 1) := by decide +kernel
theorem dX7_share_32 : decode cX7_share 32 = .ok (.lstore 4, 2) := by decide +kernel
theorem dX7_share_34 : decode cX7_share 34 = .ok (.iconst 0, 1) := by decide +kernel
theorem dX7_share_35 : decode cX7_share 35 = .ok (.istore 6, 2) := by decide +kernel
theorem dX7_share_37 : decode cX7_share 37 = .ok (.iload 6, 2) := by decide +kernel
theorem dX7_share_39 : decode cX7_share 39 = .ok (.iconst 1, 1) := by decide +kernel
theorem dX7_share_40 : decode cX7_share 40 = .ok (.aload_n 0, 1) := by decide +kernel
theorem dX7_share_41 : decode cX7_share 41 = .ok (.getfield 67, 3) := by decide +kernel
theorem dX7_share_44 : decode cX7_share 44 = .ok (.ishl, 1) := by decide +kernel
theorem dX7_share_45 : decode cX7_share 45 = .ok (.if_icmp .ge 69, 3) := by decide +kernel
theorem dX7_share_48 : decode cX7_share 48 = .ok (.iload 6, 2) := by decide +kernel
theorem dX7_share_50 : decode cX7_share 50 = .ok (.iload_n 1, 1) := by decide +kernel
theorem dX7_share_51 : decode cX7_share 51 = .ok (.ishr, 1) := by decide +kernel
theorem dX7_share_52 : decode cX7_share 52 = .ok (.iconst 1, 1) := by decide +kernel
theorem dX7_share_53 : decode cX7_share 53 = .ok (.iand, 1) := by decide +kernel
theorem dX7_share_54 : decode cX7_share 54 = .ok (.ifCond .ne 54, 3) := by decide +kernel
theorem dX7_share_57 : decode cX7_share 57 = .ok (.iload 6, 2) := by decide +kernel
theorem dX7_share_59 : decode cX7_share 59 = .ok (.invokestatic 219, 3) := by decide +kernel
theorem dX7_share_62 : decode cX7_share 62 = .ok (.istore 7, 2) := by decide +kernel
theorem dX7_share_64 : decode cX7_share 64 = .ok (.lload 4, 2) := by decide +kernel
theorem dX7_share_66 : decode cX7_share 66 = .ok (.aload_n 0, 1) := by decide +kernel
theorem dX7_share_67 : decode cX7_share 67 = .ok (.iload 6, 2) := by decide +kernel
theorem dX7_share_69 : decode cX7_share 69 = .ok (.iconst 1, 1) := by decide +kernel
theorem dX7_share_70 : decode cX7_share 70 = .ok (.iload_n 1, 1) := by decide +kernel
theorem dX7_share_71 : decode cX7_share 71 = .ok (.ishl, 1) := by decide +kernel
theorem dX7_share_72 : decode cX7_share 72 = .ok (.ior, 1) := by decide +kernel
theorem dX7_share_73 : decode cX7_share 73 = .ok (.iload_n 2, 1) := by decide +kernel
theorem dX7_share_74 : decode cX7_share 74 = .ok (.invokevirtual 225, 3) := by decide +kernel
theorem dX7_share_77 : decode cX7_share 77 = .ok (.aload_n 0, 1) := by decide +kernel
theorem dX7_share_78 : decode cX7_share 78 = .ok (.iload 6, 2) := by decide +kernel
theorem dX7_share_80 : decode cX7_share 80 = .ok (.iload_n 2, 1) := by decide +kernel
theorem dX7_share_81 : decode cX7_share 81 = .ok (.invokevirtual 225, 3) := by decide +kernel
theorem dX7_share_84 : decode cX7_share 84 = .ok (.isub, 1) := by decide +kernel
theorem dX7_share_85 : decode cX7_share 85 = .ok (.i2l, 1) := by decide +kernel
theorem dX7_share_86 : decode cX7_share 86 = .ok (.iload 7, 2) := by decide +kernel
theorem dX7_share_88 : decode cX7_share 88 = .ok (.invokestatic 234, 3) := by decide +kernel
theorem dX7_share_91 : decode cX7_share 91 = .ok (.lmul, 1) := by decide +kernel
theorem dX7_share_92 : decode cX7_share 92 = .ok (.aload_n 0, 1) := by decide +kernel
theorem dX7_share_93 : decode cX7_share 93 = .ok (.getfield 67, 3) := by decide +kernel
theorem dX7_share_96 : decode cX7_share 96 = .ok (.iconst 1, 1) := by decide +kernel
theorem dX7_share_97 : decode cX7_share 97 = .ok (.isub, 1) := by decide +kernel
theorem dX7_share_98 : decode cX7_share 98 = .ok (.iload 7, 2) := by decide +kernel
theorem dX7_share_100 : decode cX7_share 100 = .ok (.isub, 1) := by decide +kernel
theorem dX7_share_101 : decode cX7_share 101 = .ok (.invokestatic 234, 3) := by decide +kernel
theorem dX7_share_104 : decode cX7_share 104 = .ok (.lmul, 1) := by decide +kernel
theorem dX7_share_105 : decode cX7_share 105 = .ok (.ladd, 1) := by decide +kernel
theorem dX7_share_106 : decode cX7_share 106 = .ok (.lstore 4, 2) := by decide +kernel
theorem dX7_share_108 : decode cX7_share 108 = .ok (.iinc 6 1, 3) := by decide +kernel
theorem dX7_share_111 : decode cX7_share 111 = .ok (.goto (-74), 3) := by decide +kernel
theorem dX7_share_114 : decode cX7_share 114 = .ok (.lload 4, 2) := by decide +kernel
theorem dX7_share_116 : decode cX7_share 116 = .ok (.aload_n 0, 1) := by decide +kernel
theorem dX7_share_117 : decode cX7_share 117 = .ok (.getfield 67, 3) := by decide +kernel
theorem dX7_share_120 : decode cX7_share 120 = .ok (.invokestatic 234, 3) := by decide +kernel
theorem dX7_share_123 : decode cX7_share 123 = .ok (.iload_n 3, 1) := by decide +kernel
theorem dX7_share_124 : decode cX7_share 124 = .ok (.invokestatic 238, 3) := by decide +kernel
theorem dX7_share_127 : decode cX7_share 127 = .ok (.lreturn, 1) := by decide +kernel
theorem dX7_findOdds_0 : decode cX7_findOdds 0 = .ok (.aload_n 0, 1) := by decide +kernel
theorem dX7_findOdds_1 : decode cX7_findOdds 1 = .ok (.lconst 0, 1) := by decide +kernel
theorem dX7_findOdds_2 : decode cX7_findOdds 2 = .ok (.putfield 242, 3) := by decide +kernel
theorem dX7_findOdds_5 : decode cX7_findOdds 5 = .ok (.aload_n 0, 1) := by decide +kernel
theorem dX7_findOdds_6 : decode cX7_findOdds 6 = .ok (.lconst 0, 1) := by decide +kernel
theorem dX7_findOdds_7 : decode cX7_findOdds 7 = .ok (.putfield 246, 3) := by decide +kernel
theorem dX7_findOdds_10 : decode cX7_findOdds 10 = .ok (.aload_n 0, 1) := by decide +kernel
theorem dX7_findOdds_11 : decode cX7_findOdds 11 = .ok (.lconst 1, 1) := by decide +kernel
theorem dX7_findOdds_12 : decode cX7_findOdds 12 = .ok (.putfield 249, 3) := by decide +kernel
theorem dX7_findOdds_15 : decode cX7_findOdds 15 = .ok (.iconst 0, 1) := by decide +kernel
theorem dX7_findOdds_16 : decode cX7_findOdds 16 = .ok (.istore_n 3, 1) := by decide +kernel
theorem dX7_findOdds_17 : decode cX7_findOdds 17 = .ok (.iload_n 3, 1) := by decide +kernel
theorem dX7_findOdds_18 : decode cX7_findOdds 18 = .ok (.aload_n 0, 1) := by decide +kernel
theorem dX7_findOdds_19 : decode cX7_findOdds 19 = .ok (.getfield 67, 3) := by decide +kernel
theorem dX7_findOdds_22 : decode cX7_findOdds 22 = .ok (.if_icmp .ge 21, 3) := by decide +kernel
theorem dX7_findOdds_25 : decode cX7_findOdds 25 = .ok (.aload_n 0, 1) := by decide +kernel
theorem dX7_findOdds_26 : decode cX7_findOdds 26 = .ok (.dup, 1) := by decide +kernel
theorem dX7_findOdds_27 : decode cX7_findOdds 27 = .ok (.getfield 249, 3) := by decide +kernel
theorem dX7_findOdds_30 : decode cX7_findOdds 30 = .ok (.ldc2_w 252, 3) := by decide +kernel
theorem dX7_findOdds_33 : decode cX7_findOdds 33 = .ok (.lmul, 1) := by decide +kernel
theorem dX7_findOdds_34 : decode cX7_findOdds 34 = .ok (.putfield 249, 3) := by decide +kernel
theorem dX7_findOdds_37 : decode cX7_findOdds 37 = .ok (.iinc 3 1, 3) := by decide +kernel
theorem dX7_findOdds_40 : decode cX7_findOdds 40 = .ok (.goto (-23), 3) := by decide +kernel
theorem dX7_findOdds_43 : decode cX7_findOdds 43 = .ok (.iconst 0, 1) := by decide +kernel
theorem dX7_findOdds_44 : decode cX7_findOdds 44 = .ok (.istore_n 3, 1) := by decide +kernel
theorem dX7_findOdds_45 : decode cX7_findOdds 45 = .ok (.iload_n 3, 1) := by decide +kernel
theorem dX7_findOdds_46 : decode cX7_findOdds 46 = .ok (.iconst 1, 1) := by decide +kernel
theorem dX7_findOdds_47 : decode cX7_findOdds 47 = .ok (.aload_n 0, 1) := by decide +kernel
theorem dX7_findOdds_48 : decode cX7_findOdds 48 = .ok (.getfield 67, 3) := by decide +kernel
theorem dX7_findOdds_51 : decode cX7_findOdds 51 = .ok (.ishl, 1) := by decide +kernel
theorem dX7_findOdds_52 : decode cX7_findOdds 52 = .ok (.if_icmp .ge 152, 3) := by decide +kernel
theorem dX7_findOdds_55 : decode cX7_findOdds 55 = .ok (.lconst 1, 1) := by decide +kernel
theorem dX7_findOdds_56 : decode cX7_findOdds 56 = .ok (.lstore 4, 2) := by decide +kernel
theorem dX7_findOdds_58 : decode cX7_findOdds 58 = .ok (.aload_n 0, 1) := by decide +kernel
theorem dX7_findOdds_59 : decode cX7_findOdds 59 = .ok (.invokevirtual 170, 3) := by decide +kernel
theorem dX7_findOdds_62 : decode cX7_findOdds 62 = .ok (.iconst 0, 1) := by decide +kernel
theorem dX7_findOdds_63 : decode cX7_findOdds 63 = .ok (.istore 6, 2) := by decide +kernel
theorem dX7_findOdds_65 : decode cX7_findOdds 65 = .ok (.iload 6, 2) := by decide +kernel
theorem dX7_findOdds_67 : decode cX7_findOdds 67 = .ok (.aload_n 0, 1) := by decide +kernel
theorem dX7_findOdds_68 : decode cX7_findOdds 68 = .ok (.getfield 67, 3) := by decide +kernel
theorem dX7_findOdds_71 : decode cX7_findOdds 71 = .ok (.if_icmp .ge 73, 3) := by decide +kernel
theorem dX7_findOdds_74 : decode cX7_findOdds 74 = .ok (.iload_n 3, 1) := by decide +kernel
theorem dX7_findOdds_75 : decode cX7_findOdds 75 = .ok (.iload 6, 2) := by decide +kernel
theorem dX7_findOdds_77 : decode cX7_findOdds 77 = .ok (.ishr, 1) := by decide +kernel
theorem dX7_findOdds_78 : decode cX7_findOdds 78 = .ok (.iconst 1, 1) := by decide +kernel
theorem dX7_findOdds_79 : decode cX7_findOdds 79 = .ok (.iand, 1) := by decide +kernel
theorem dX7_findOdds_80 : decode cX7_findOdds 80 = .ok (.iconst 1, 1) := by decide +kernel
theorem dX7_findOdds_81 : decode cX7_findOdds 81 = .ok (.if_icmp .ne 7, 3) := by decide +kernel
theorem dX7_findOdds_84 : decode cX7_findOdds 84 = .ok (.iconst 1, 1) := by decide +kernel
theorem dX7_findOdds_85 : decode cX7_findOdds 85 = .ok (.goto 4, 3) := by decide +kernel
theorem dX7_findOdds_88 : decode cX7_findOdds 88 = .ok (.iconst 0, 1) := by decide +kernel
theorem dX7_findOdds_89 : decode cX7_findOdds 89 = .ok (.istore 7, 2) := by decide +kernel
theorem dX7_findOdds_91 : decode cX7_findOdds 91 = .ok (.lload 4, 2) := by decide +kernel
theorem dX7_findOdds_93 : decode cX7_findOdds 93 = .ok (.iload 7, 2) := by decide +kernel
theorem dX7_findOdds_95 : decode cX7_findOdds 95 = .ok (.ifCond .eq 8, 3) := by decide +kernel
theorem dX7_findOdds_98 : decode cX7_findOdds 98 = .ok (.iload_n 1, 1) := by decide +kernel
theorem dX7_findOdds_99 : decode cX7_findOdds 99 = .ok (.i2l, 1) := by decide +kernel
theorem dX7_findOdds_100 : decode cX7_findOdds 100 = .ok (.goto 8, 3) := by decide +kernel
theorem dX7_findOdds_103 : decode cX7_findOdds 103 = .ok (.bipush 10, 2) := by decide +kernel
theorem dX7_findOdds_105 : decode cX7_findOdds 105 = .ok (.iload_n 1, 1) := by decide +kernel
theorem dX7_findOdds_106 : decode cX7_findOdds 106 = .ok (.isub, 1) := by decide +kernel
theorem dX7_findOdds_107 : decode cX7_findOdds 107 = .ok (.i2l, 1) := by decide +kernel
theorem dX7_findOdds_108 : decode cX7_findOdds 108 = .ok (.lmul, 1) := by decide +kernel
theorem dX7_findOdds_109 : decode cX7_findOdds 109 = .ok (.lstore 4, 2) := by decide +kernel
theorem dX7_findOdds_111 : decode cX7_findOdds 111 = .ok (.aload_n 0, 1) := by decide +kernel
theorem dX7_findOdds_112 : decode cX7_findOdds 112 = .ok (.getfield 13, 3) := by decide +kernel
theorem dX7_findOdds_115 : decode cX7_findOdds 115 = .ok (.iconst 0, 1) := by decide +kernel
theorem dX7_findOdds_116 : decode cX7_findOdds 116 = .ok (.iload 6, 2) := by decide +kernel
theorem dX7_findOdds_118 : decode cX7_findOdds 118 = .ok (.iadd, 1) := by decide +kernel
theorem dX7_findOdds_119 : decode cX7_findOdds 119 = .ok (.iload 7, 2) := by decide +kernel
theorem dX7_findOdds_121 : decode cX7_findOdds 121 = .ok (.ifCond .eq 7, 3) := by decide +kernel
theorem dX7_findOdds_124 : decode cX7_findOdds 124 = .ok (.iconst 2, 1) := by decide +kernel
theorem dX7_findOdds_125 : decode cX7_findOdds 125 = .ok (.goto 12, 3) := by decide +kernel
theorem dX7_findOdds_128 : decode cX7_findOdds 128 = .ok (.aload_n 0, 1) := by decide +kernel
theorem dX7_findOdds_129 : decode cX7_findOdds 129 = .ok (.getfield 13, 3) := by decide +kernel
theorem dX7_findOdds_132 : decode cX7_findOdds 132 = .ok (.iconst 0, 1) := by decide +kernel
theorem dX7_findOdds_133 : decode cX7_findOdds 133 = .ok (.iload 6, 2) := by decide +kernel
theorem dX7_findOdds_135 : decode cX7_findOdds 135 = .ok (.iadd, 1) := by decide +kernel
theorem dX7_findOdds_136 : decode cX7_findOdds 136 = .ok (.iaload, 1) := by decide +kernel
theorem dX7_findOdds_137 : decode cX7_findOdds 137 = .ok (.iastore, 1) := by decide +kernel
theorem dX7_findOdds_138 : decode cX7_findOdds 138 = .ok (.iinc 6 1, 3) := by decide +kernel
theorem dX7_findOdds_141 : decode cX7_findOdds 141 = .ok (.goto (-76), 3) := by decide +kernel
theorem dX7_findOdds_144 : decode cX7_findOdds 144 = .ok (.aload_n 0, 1) := by decide +kernel
theorem dX7_findOdds_145 : decode cX7_findOdds 145 = .ok (.iload_n 2, 1) := by decide +kernel
theorem dX7_findOdds_146 : decode cX7_findOdds 146 = .ok (.invokevirtual 212, 3) := by decide +kernel
theorem dX7_findOdds_149 : decode cX7_findOdds 149 = .ok (.istore 6, 2) := by decide +kernel
theorem dX7_findOdds_151 : decode cX7_findOdds 151 = .ok (.aload_n 0, 1) := by decide +kernel
theorem dX7_findOdds_152 : decode cX7_findOdds 152 = .ok (.dup, 1) := by decide +kernel
theorem dX7_findOdds_153 : decode cX7_findOdds 153 = .ok (.getfield 242, 3) := by decide +kernel
theorem dX7_findOdds_156 : decode cX7_findOdds 156 = .ok (.aload_n 0, 1) := by decide +kernel
theorem dX7_findOdds_157 : decode cX7_findOdds 157 = .ok (.getfield 13, 3) := by decide +kernel
theorem dX7_findOdds_160 : decode cX7_findOdds 160 = .ok (.bipush 20, 2) := by decide +kernel
theorem dX7_findOdds_162 : decode cX7_findOdds 162 = .ok (.iaload, 1) := by decide +kernel
theorem dX7_findOdds_163 : decode cX7_findOdds 163 = .ok (.aload_n 0, 1) := by decide +kernel
theorem dX7_findOdds_164 : decode cX7_findOdds 164 = .ok (.getfield 7, 3) := by decide +kernel
theorem dX7_findOdds_167 : decode cX7_findOdds 167 = .ok (.bipush 20, 2) := by decide +kernel
theorem dX7_findOdds_169 : decode cX7_findOdds 169 = .ok (.iaload, 1) := by decide +kernel
theorem dX7_findOdds_170 : decode cX7_findOdds 170 = .ok (.if_icmp .ne 8, 3) := by decide +kernel
theorem dX7_findOdds_173 : decode cX7_findOdds 173 = .ok (.lload 4, 2) := by decide +kernel
theorem dX7_findOdds_175 : decode cX7_findOdds 175 = .ok (.goto 4, 3) := by decide +kernel
theorem dX7_findOdds_178 : decode cX7_findOdds 178 = .ok (.lconst 0, 1) := by decide +kernel
theorem dX7_findOdds_179 : decode cX7_findOdds 179 = .ok (.ladd, 1) := by decide +kernel
theorem dX7_findOdds_180 : decode cX7_findOdds 180 = .ok (.putfield 242, 3) := by decide +kernel
theorem dX7_findOdds_183 : decode cX7_findOdds 183 = .ok (.aload_n 0, 1) := by decide +kernel
theorem dX7_findOdds_184 : decode cX7_findOdds 184 = .ok (.dup, 1) := by decide +kernel
theorem dX7_findOdds_185 : decode cX7_findOdds 185 = .ok (.getfield 246, 3) := by decide +kernel
theorem dX7_findOdds_188 : decode cX7_findOdds 188 = .ok (.lload 4, 2) := by decide +kernel
theorem dX7_findOdds_190 : decode cX7_findOdds 190 = .ok (.iload 6, 2) := by decide +kernel
theorem dX7_findOdds_192 : decode cX7_findOdds 192 = .ok (.i2l, 1) := by decide +kernel
theorem dX7_findOdds_193 : decode cX7_findOdds 193 = .ok (.lmul, 1) := by decide +kernel
theorem dX7_findOdds_194 : decode cX7_findOdds 194 = .ok (.ladd, 1) := by decide +kernel
theorem dX7_findOdds_195 : decode cX7_findOdds 195 = .ok (.putfield 246, 3) := by decide +kernel
theorem dX7_findOdds_198 : decode cX7_findOdds 198 = .ok (.iinc 3 1, 3) := by decide +kernel
theorem dX7_findOdds_201 : decode cX7_findOdds 201 = .ok (.goto (-156), 3) := by decide +kernel
theorem dX7_findOdds_204 : decode cX7_findOdds 204 = .ok (.return_, 1) := by decide +kernel
theorem dX7_luck_0 : decode cX7_luck 0 = .ok (.iload_n 1, 1) := by decide +kernel
theorem dX7_luck_1 : decode cX7_luck 1 = .ok (.i2l, 1) := by decide +kernel
theorem dX7_luck_2 : decode cX7_luck 2 = .ok (.lconst 0, 1) := by decide +kernel
theorem dX7_luck_3 : decode cX7_luck 3 = .ok (.ldc2_w 252, 3) := by decide +kernel
theorem dX7_luck_6 : decode cX7_luck 6 = .ok (.invokestatic 72, 3) := by decide +kernel
theorem dX7_luck_9 : decode cX7_luck 9 = .ok (.ifCond .eq 22, 3) := by decide +kernel
theorem dX7_luck_12 : decode cX7_luck 12 = .ok (.iload_n 2, 1) := by decide +kernel
theorem dX7_luck_13 : decode cX7_luck 13 = .ok (.i2l, 1) := by decide +kernel
theorem dX7_luck_14 : decode cX7_luck 14 = .ok (.lconst 0, 1) := by decide +kernel
theorem dX7_luck_15 : decode cX7_luck 15 = .ok (.ldc2_w 192, 3) := by decide +kernel
theorem dX7_luck_18 : decode cX7_luck 18 = .ok (.invokestatic 72, 3) := by decide +kernel
theorem dX7_luck_21 : decode cX7_luck 21 = .ok (.ifCond .eq 10, 3) := by decide +kernel
theorem dX7_luck_24 : decode cX7_luck 24 = .ok (.iload_n 3, 1) := by decide +kernel
theorem dX7_luck_25 : decode cX7_luck 25 = .ok (.invokestatic 182, 3) := by decide +kernel
theorem dX7_luck_28 : decode cX7_luck 28 = .ok (.ifCond .ne 7, 3) := by decide +kernel
theorem dX7_luck_31 : decode cX7_luck 31 = .ok (.ldc2_w 232, 3) := by decide +kernel
theorem dX7_luck_34 : decode cX7_luck 34 = .ok (.lreturn, 1) := by decide +kernel
theorem dX7_luck_35 : decode cX7_luck 35 = .ok (.aload_n 0, 1) := by decide +kernel
theorem dX7_luck_36 : decode cX7_luck 36 = .ok (.iload_n 1, 1) := by decide +kernel
theorem dX7_luck_37 : decode cX7_luck 37 = .ok (.iload_n 2, 1) := by decide +kernel
theorem dX7_luck_38 : decode cX7_luck 38 = .ok (.invokevirtual 254, 3) := by decide +kernel
theorem dX7_luck_41 : decode cX7_luck 41 = .ok (.aload_n 0, 1) := by decide +kernel
theorem dX7_luck_42 : decode cX7_luck 42 = .ok (.getfield 242, 3) := by decide +kernel
theorem dX7_luck_45 : decode cX7_luck 45 = .ok (.aload_n 0, 1) := by decide +kernel
theorem dX7_luck_46 : decode cX7_luck 46 = .ok (.getfield 249, 3) := by decide +kernel
theorem dX7_luck_49 : decode cX7_luck 49 = .ok (.iload_n 3, 1) := by decide +kernel
theorem dX7_luck_50 : decode cX7_luck 50 = .ok (.invokestatic 238, 3) := by decide +kernel
theorem dX7_luck_53 : decode cX7_luck 53 = .ok (.lreturn, 1) := by decide +kernel
theorem dX7_mean_0 : decode cX7_mean 0 = .ok (.iload_n 1, 1) := by decide +kernel
theorem dX7_mean_1 : decode cX7_mean 1 = .ok (.i2l, 1) := by decide +kernel
theorem dX7_mean_2 : decode cX7_mean 2 = .ok (.lconst 0, 1) := by decide +kernel
theorem dX7_mean_3 : decode cX7_mean 3 = .ok (.ldc2_w 252, 3) := by decide +kernel
theorem dX7_mean_6 : decode cX7_mean 6 = .ok (.invokestatic 72, 3) := by decide +kernel
theorem dX7_mean_9 : decode cX7_mean 9 = .ok (.ifCond .eq 22, 3) := by decide +kernel
theorem dX7_mean_12 : decode cX7_mean 12 = .ok (.iload_n 2, 1) := by decide +kernel
theorem dX7_mean_13 : decode cX7_mean 13 = .ok (.i2l, 1) := by decide +kernel
theorem dX7_mean_14 : decode cX7_mean 14 = .ok (.lconst 0, 1) := by decide +kernel
theorem dX7_mean_15 : decode cX7_mean 15 = .ok (.ldc2_w 192, 3) := by decide +kernel
theorem dX7_mean_18 : decode cX7_mean 18 = .ok (.invokestatic 72, 3) := by decide +kernel
theorem dX7_mean_21 : decode cX7_mean 21 = .ok (.ifCond .eq 10, 3) := by decide +kernel
theorem dX7_mean_24 : decode cX7_mean 24 = .ok (.iload_n 3, 1) := by decide +kernel
theorem dX7_mean_25 : decode cX7_mean 25 = .ok (.invokestatic 182, 3) := by decide +kernel
theorem dX7_mean_28 : decode cX7_mean 28 = .ok (.ifCond .ne 7, 3) := by decide +kernel
theorem dX7_mean_31 : decode cX7_mean 31 = .ok (.ldc2_w 232, 3) := by decide +kernel
theorem dX7_mean_34 : decode cX7_mean 34 = .ok (.lreturn, 1) := by decide +kernel
theorem dX7_mean_35 : decode cX7_mean 35 = .ok (.aload_n 0, 1) := by decide +kernel
theorem dX7_mean_36 : decode cX7_mean 36 = .ok (.iload_n 1, 1) := by decide +kernel
theorem dX7_mean_37 : decode cX7_mean 37 = .ok (.iload_n 2, 1) := by decide +kernel
theorem dX7_mean_38 : decode cX7_mean 38 = .ok (.invokevirtual 254, 3) := by decide +kernel
theorem dX7_mean_41 : decode cX7_mean 41 = .ok (.aload_n 0, 1) := by decide +kernel
theorem dX7_mean_42 : decode cX7_mean 42 = .ok (.getfield 246, 3) := by decide +kernel
theorem dX7_mean_45 : decode cX7_mean 45 = .ok (.aload_n 0, 1) := by decide +kernel
theorem dX7_mean_46 : decode cX7_mean 46 = .ok (.getfield 249, 3) := by decide +kernel
theorem dX7_mean_49 : decode cX7_mean 49 = .ok (.iload_n 3, 1) := by decide +kernel
theorem dX7_mean_50 : decode cX7_mean 50 = .ok (.invokestatic 238, 3) := by decide +kernel
theorem dX7_mean_53 : decode cX7_mean 53 = .ok (.lreturn, 1) := by decide +kernel
theorem dX7_see_0 : decode cX7_see 0 = .ok (.aload_n 0, 1) := by decide +kernel
theorem dX7_see_1 : decode cX7_see 1 = .ok (.iload_n 1, 1) := by decide +kernel
theorem dX7_see_2 : decode cX7_see 2 = .ok (.invokevirtual 176, 3) := by decide +kernel
theorem dX7_see_5 : decode cX7_see 5 = .ok (.ifCond .eq 27, 3) := by decide +kernel
theorem dX7_see_8 : decode cX7_see 8 = .ok (.iload_n 2, 1) := by decide +kernel
theorem dX7_see_9 : decode cX7_see 9 = .ok (.i2l, 1) := by decide +kernel
theorem dX7_see_10 : decode cX7_see 10 = .ok (.lconst 1, 1) := by decide +kernel
theorem dX7_see_11 : decode cX7_see 11 = .ok (.ldc2_w 194, 3) := by decide +kernel
theorem dX7_see_14 : decode cX7_see 14 = .ok (.invokestatic 72, 3) := by decide +kernel
theorem dX7_see_17 : decode cX7_see 17 = .ok (.ifCond .eq 15, 3) := by decide +kernel
theorem dX7_see_20 : decode cX7_see 20 = .ok (.iload_n 3, 1) := by decide +kernel
theorem dX7_see_21 : decode cX7_see 21 = .ok (.i2l, 1) := by decide +kernel
theorem dX7_see_22 : decode cX7_see 22 = .ok (.lconst 0, 1) := by decide +kernel
theorem dX7_see_23 : decode cX7_see 23 = .ok (.ldc2_w 187, 3) := by decide +kernel
theorem dX7_see_26 : decode cX7_see 26 = .ok (.invokestatic 72, 3) := by decide +kernel
theorem dX7_see_29 : decode cX7_see 29 = .ok (.ifCond .ne 5, 3) := by decide +kernel
theorem dX7_see_32 : decode cX7_see 32 = .ok (.iconst (-1), 1) := by decide +kernel
theorem dX7_see_33 : decode cX7_see 33 = .ok (.ireturn, 1) := by decide +kernel
theorem dX7_see_34 : decode cX7_see 34 = .ok (.aload_n 0, 1) := by decide +kernel
theorem dX7_see_35 : decode cX7_see 35 = .ok (.getfield 7, 3) := by decide +kernel
theorem dX7_see_38 : decode cX7_see 38 = .ok (.bipush 22, 2) := by decide +kernel
theorem dX7_see_40 : decode cX7_see 40 = .ok (.iaload, 1) := by decide +kernel
theorem dX7_see_41 : decode cX7_see 41 = .ok (.bipush 6, 2) := by decide +kernel
theorem dX7_see_43 : decode cX7_see 43 = .ok (.if_icmp .ne 6, 3) := by decide +kernel
theorem dX7_see_46 : decode cX7_see 46 = .ok (.bipush (-3), 2) := by decide +kernel
theorem dX7_see_48 : decode cX7_see 48 = .ok (.ireturn, 1) := by decide +kernel
theorem dX7_see_49 : decode cX7_see 49 = .ok (.bipush 23, 2) := by decide +kernel
theorem dX7_see_51 : decode cX7_see 51 = .ok (.iconst 3, 1) := by decide +kernel
theorem dX7_see_52 : decode cX7_see 52 = .ok (.aload_n 0, 1) := by decide +kernel
theorem dX7_see_53 : decode cX7_see 53 = .ok (.getfield 7, 3) := by decide +kernel
theorem dX7_see_56 : decode cX7_see 56 = .ok (.bipush 22, 2) := by decide +kernel
theorem dX7_see_58 : decode cX7_see 58 = .ok (.iaload, 1) := by decide +kernel
theorem dX7_see_59 : decode cX7_see 59 = .ok (.imul, 1) := by decide +kernel
theorem dX7_see_60 : decode cX7_see 60 = .ok (.iadd, 1) := by decide +kernel
theorem dX7_see_61 : decode cX7_see 61 = .ok (.istore 4, 2) := by decide +kernel
theorem dX7_see_63 : decode cX7_see 63 = .ok (.aload_n 0, 1) := by decide +kernel
theorem dX7_see_64 : decode cX7_see 64 = .ok (.getfield 7, 3) := by decide +kernel
theorem dX7_see_67 : decode cX7_see 67 = .ok (.iload 4, 2) := by decide +kernel
theorem dX7_see_69 : decode cX7_see 69 = .ok (.iload_n 1, 1) := by decide +kernel
theorem dX7_see_70 : decode cX7_see 70 = .ok (.iastore, 1) := by decide +kernel
theorem dX7_see_71 : decode cX7_see 71 = .ok (.aload_n 0, 1) := by decide +kernel
theorem dX7_see_72 : decode cX7_see 72 = .ok (.getfield 7, 3) := by decide +kernel
theorem dX7_see_75 : decode cX7_see 75 = .ok (.iload 4, 2) := by decide +kernel
theorem dX7_see_77 : decode cX7_see 77 = .ok (.iconst 1, 1) := by decide +kernel
theorem dX7_see_78 : decode cX7_see 78 = .ok (.iadd, 1) := by decide +kernel
theorem dX7_see_79 : decode cX7_see 79 = .ok (.iload_n 2, 1) := by decide +kernel
theorem dX7_see_80 : decode cX7_see 80 = .ok (.iastore, 1) := by decide +kernel
theorem dX7_see_81 : decode cX7_see 81 = .ok (.aload_n 0, 1) := by decide +kernel
theorem dX7_see_82 : decode cX7_see 82 = .ok (.getfield 7, 3) := by decide +kernel
theorem dX7_see_85 : decode cX7_see 85 = .ok (.iload 4, 2) := by decide +kernel
theorem dX7_see_87 : decode cX7_see 87 = .ok (.iconst 2, 1) := by decide +kernel
theorem dX7_see_88 : decode cX7_see 88 = .ok (.iadd, 1) := by decide +kernel
theorem dX7_see_89 : decode cX7_see 89 = .ok (.iload_n 3, 1) := by decide +kernel
theorem dX7_see_90 : decode cX7_see 90 = .ok (.iastore, 1) := by decide +kernel
theorem dX7_see_91 : decode cX7_see 91 = .ok (.aload_n 0, 1) := by decide +kernel
theorem dX7_see_92 : decode cX7_see 92 = .ok (.getfield 7, 3) := by decide +kernel
theorem dX7_see_95 : decode cX7_see 95 = .ok (.bipush 22, 2) := by decide +kernel
theorem dX7_see_97 : decode cX7_see 97 = .ok (.dup2, 1) := by decide +kernel
theorem dX7_see_98 : decode cX7_see 98 = .ok (.iaload, 1) := by decide +kernel
theorem dX7_see_99 : decode cX7_see 99 = .ok (.iconst 1, 1) := by decide +kernel
theorem dX7_see_100 : decode cX7_see 100 = .ok (.iadd, 1) := by decide +kernel
theorem dX7_see_101 : decode cX7_see 101 = .ok (.iastore, 1) := by decide +kernel
theorem dX7_see_102 : decode cX7_see 102 = .ok (.aload_n 0, 1) := by decide +kernel
theorem dX7_see_103 : decode cX7_see 103 = .ok (.getfield 7, 3) := by decide +kernel
theorem dX7_see_106 : decode cX7_see 106 = .ok (.bipush 22, 2) := by decide +kernel
theorem dX7_see_108 : decode cX7_see 108 = .ok (.iaload, 1) := by decide +kernel
theorem dX7_see_109 : decode cX7_see 109 = .ok (.ireturn, 1) := by decide +kernel
theorem dX7_forget_0 : decode cX7_forget 0 = .ok (.iload_n 1, 1) := by decide +kernel
theorem dX7_forget_1 : decode cX7_forget 1 = .ok (.i2l, 1) := by decide +kernel
theorem dX7_forget_2 : decode cX7_forget 2 = .ok (.lconst 0, 1) := by decide +kernel
theorem dX7_forget_3 : decode cX7_forget 3 = .ok (.aload_n 0, 1) := by decide +kernel
theorem dX7_forget_4 : decode cX7_forget 4 = .ok (.getfield 7, 3) := by decide +kernel
theorem dX7_forget_7 : decode cX7_forget 7 = .ok (.bipush 22, 2) := by decide +kernel
theorem dX7_forget_9 : decode cX7_forget 9 = .ok (.iaload, 1) := by decide +kernel
theorem dX7_forget_10 : decode cX7_forget 10 = .ok (.i2l, 1) := by decide +kernel
theorem dX7_forget_11 : decode cX7_forget 11 = .ok (.invokestatic 72, 3) := by decide +kernel
theorem dX7_forget_14 : decode cX7_forget 14 = .ok (.ifCond .eq 13, 3) := by decide +kernel
theorem dX7_forget_17 : decode cX7_forget 17 = .ok (.aload_n 0, 1) := by decide +kernel
theorem dX7_forget_18 : decode cX7_forget 18 = .ok (.bipush 22, 2) := by decide +kernel
theorem dX7_forget_20 : decode cX7_forget 20 = .ok (.iload_n 1, 1) := by decide +kernel
theorem dX7_forget_21 : decode cX7_forget 21 = .ok (.invokevirtual 189, 3) := by decide +kernel
theorem dX7_forget_24 : decode cX7_forget 24 = .ok (.goto 4, 3) := by decide +kernel
theorem dX7_forget_27 : decode cX7_forget 27 = .ok (.iconst (-1), 1) := by decide +kernel
theorem dX7_forget_28 : decode cX7_forget 28 = .ok (.ireturn, 1) := by decide +kernel
theorem dX7_isFit_0 : decode cX7_isFit 0 = .ok (.iconst 1, 1) := by decide +kernel
theorem dX7_isFit_1 : decode cX7_isFit 1 = .ok (.istore_n 2, 1) := by decide +kernel
theorem dX7_isFit_2 : decode cX7_isFit 2 = .ok (.aload_n 0, 1) := by decide +kernel
theorem dX7_isFit_3 : decode cX7_isFit 3 = .ok (.iload_n 1, 1) := by decide +kernel
theorem dX7_isFit_4 : decode cX7_isFit 4 = .ok (.invokevirtual 209, 3) := by decide +kernel
theorem dX7_isFit_7 : decode cX7_isFit 7 = .ok (.iconst 1, 1) := by decide +kernel
theorem dX7_isFit_8 : decode cX7_isFit 8 = .ok (.istore_n 3, 1) := by decide +kernel
theorem dX7_isFit_9 : decode cX7_isFit 9 = .ok (.iload_n 3, 1) := by decide +kernel
theorem dX7_isFit_10 : decode cX7_isFit 10 = .ok (.bipush 9, 2) := by decide +kernel
theorem dX7_isFit_12 : decode cX7_isFit 12 = .ok (.if_icmp .gt 52, 3) := by decide +kernel
theorem dX7_isFit_15 : decode cX7_isFit 15 = .ok (.aload_n 0, 1) := by decide +kernel
theorem dX7_isFit_16 : decode cX7_isFit 16 = .ok (.invokevirtual 164, 3) := by decide +kernel
theorem dX7_isFit_19 : decode cX7_isFit 19 = .ok (.iconst 0, 1) := by decide +kernel
theorem dX7_isFit_20 : decode cX7_isFit 20 = .ok (.istore 4, 2) := by decide +kernel
theorem dX7_isFit_22 : decode cX7_isFit 22 = .ok (.iload 4, 2) := by decide +kernel
theorem dX7_isFit_24 : decode cX7_isFit 24 = .ok (.aload_n 0, 1) := by decide +kernel
theorem dX7_isFit_25 : decode cX7_isFit 25 = .ok (.getfield 67, 3) := by decide +kernel
theorem dX7_isFit_28 : decode cX7_isFit 28 = .ok (.if_icmp .ge 30, 3) := by decide +kernel
theorem dX7_isFit_31 : decode cX7_isFit 31 = .ok (.aload_n 0, 1) := by decide +kernel
theorem dX7_isFit_32 : decode cX7_isFit 32 = .ok (.getfield 29, 3) := by decide +kernel
theorem dX7_isFit_35 : decode cX7_isFit 35 = .ok (.bipush 10, 2) := by decide +kernel
theorem dX7_isFit_37 : decode cX7_isFit 37 = .ok (.iload 4, 2) := by decide +kernel
theorem dX7_isFit_39 : decode cX7_isFit 39 = .ok (.imul, 1) := by decide +kernel
theorem dX7_isFit_40 : decode cX7_isFit 40 = .ok (.iload_n 3, 1) := by decide +kernel
theorem dX7_isFit_41 : decode cX7_isFit 41 = .ok (.iadd, 1) := by decide +kernel
theorem dX7_isFit_42 : decode cX7_isFit 42 = .ok (.aload_n 0, 1) := by decide +kernel
theorem dX7_isFit_43 : decode cX7_isFit 43 = .ok (.getfield 13, 3) := by decide +kernel
theorem dX7_isFit_46 : decode cX7_isFit 46 = .ok (.iconst 5, 1) := by decide +kernel
theorem dX7_isFit_47 : decode cX7_isFit 47 = .ok (.iload 4, 2) := by decide +kernel
theorem dX7_isFit_49 : decode cX7_isFit 49 = .ok (.iadd, 1) := by decide +kernel
theorem dX7_isFit_50 : decode cX7_isFit 50 = .ok (.iaload, 1) := by decide +kernel
theorem dX7_isFit_51 : decode cX7_isFit 51 = .ok (.iastore, 1) := by decide +kernel
theorem dX7_isFit_52 : decode cX7_isFit 52 = .ok (.iinc 4 1, 3) := by decide +kernel
theorem dX7_isFit_55 : decode cX7_isFit 55 = .ok (.goto (-33), 3) := by decide +kernel
theorem dX7_isFit_58 : decode cX7_isFit 58 = .ok (.iinc 3 1, 3) := by decide +kernel
theorem dX7_isFit_61 : decode cX7_isFit 61 = .ok (.goto (-52), 3) := by decide +kernel
theorem dX7_isFit_64 : decode cX7_isFit 64 = .ok (.iconst 0, 1) := by decide +kernel
theorem dX7_isFit_65 : decode cX7_isFit 65 = .ok (.istore_n 3, 1) := by decide +kernel
theorem dX7_isFit_66 : decode cX7_isFit 66 = .ok (.iload_n 3, 1) := by decide +kernel
theorem dX7_isFit_67 : decode cX7_isFit 67 = .ok (.aload_n 0, 1) := by decide +kernel
theorem dX7_isFit_68 : decode cX7_isFit 68 = .ok (.getfield 7, 3) := by decide +kernel
theorem dX7_isFit_71 : decode cX7_isFit 71 = .ok (.bipush 22, 2) := by decide +kernel
theorem dX7_isFit_73 : decode cX7_isFit 73 = .ok (.iaload, 1) := by decide +kernel
theorem dX7_isFit_74 : decode cX7_isFit 74 = .ok (.if_icmp .ge 64, 3) := by decide +kernel
theorem dX7_isFit_77 : decode cX7_isFit 77 = .ok (.bipush 23, 2) := by decide +kernel
theorem dX7_isFit_79 : decode cX7_isFit 79 = .ok (.iconst 3, 1) := by decide +kernel
theorem dX7_isFit_80 : decode cX7_isFit 80 = .ok (.iload_n 3, 1) := by decide +kernel
theorem dX7_isFit_81 : decode cX7_isFit 81 = .ok (.imul, 1) := by decide +kernel
theorem dX7_isFit_82 : decode cX7_isFit 82 = .ok (.iadd, 1) := by decide +kernel
theorem dX7_isFit_83 : decode cX7_isFit 83 = .ok (.istore 4, 2) := by decide +kernel
theorem dX7_isFit_85 : decode cX7_isFit 85 = .ok (.iload_n 2, 1) := by decide +kernel
theorem dX7_isFit_86 : decode cX7_isFit 86 = .ok (.ifCond .eq 44, 3) := by decide +kernel
theorem dX7_isFit_89 : decode cX7_isFit 89 = .ok (.aload_n 0, 1) := by decide +kernel
theorem dX7_isFit_90 : decode cX7_isFit 90 = .ok (.getfield 29, 3) := by decide +kernel
theorem dX7_isFit_93 : decode cX7_isFit 93 = .ok (.bipush 10, 2) := by decide +kernel
theorem dX7_isFit_95 : decode cX7_isFit 95 = .ok (.aload_n 0, 1) := by decide +kernel
theorem dX7_isFit_96 : decode cX7_isFit 96 = .ok (.getfield 7, 3) := by decide +kernel
theorem dX7_isFit_99 : decode cX7_isFit 99 = .ok (.iload 4, 2) := by decide +kernel
theorem dX7_isFit_101 : decode cX7_isFit 101 = .ok (.iaload, 1) := by decide +kernel
theorem dX7_isFit_102 : decode cX7_isFit 102 = .ok (.imul, 1) := by decide +kernel
theorem dX7_isFit_103 : decode cX7_isFit 103 = .ok (.aload_n 0, 1) := by decide +kernel
theorem dX7_isFit_104 : decode cX7_isFit 104 = .ok (.getfield 7, 3) := by decide +kernel
theorem dX7_isFit_107 : decode cX7_isFit 107 = .ok (.iload 4, 2) := by decide +kernel
theorem dX7_isFit_109 : decode cX7_isFit 109 = .ok (.iconst 1, 1) := by decide +kernel
theorem dX7_isFit_110 : decode cX7_isFit 110 = .ok (.iadd, 1) := by decide +kernel
theorem dX7_isFit_111 : decode cX7_isFit 111 = .ok (.iaload, 1) := by decide +kernel
theorem dX7_isFit_112 : decode cX7_isFit 112 = .ok (.iadd, 1) := by decide +kernel
theorem dX7_isFit_113 : decode cX7_isFit 113 = .ok (.iaload, 1) := by decide +kernel
theorem dX7_isFit_114 : decode cX7_isFit 114 = .ok (.aload_n 0, 1) := by decide +kernel
theorem dX7_isFit_115 : decode cX7_isFit 115 = .ok (.getfield 7, 3) := by decide +kernel
theorem dX7_isFit_118 : decode cX7_isFit 118 = .ok (.iload 4, 2) := by decide +kernel
theorem dX7_isFit_120 : decode cX7_isFit 120 = .ok (.iconst 2, 1) := by decide +kernel
theorem dX7_isFit_121 : decode cX7_isFit 121 = .ok (.iadd, 1) := by decide +kernel
theorem dX7_isFit_122 : decode cX7_isFit 122 = .ok (.iaload, 1) := by decide +kernel
theorem dX7_isFit_123 : decode cX7_isFit 123 = .ok (.if_icmp .ne 7, 3) := by decide +kernel
theorem dX7_isFit_126 : decode cX7_isFit 126 = .ok (.iconst 1, 1) := by decide +kernel
theorem dX7_isFit_127 : decode cX7_isFit 127 = .ok (.goto 4, 3) := by decide +kernel
theorem dX7_isFit_130 : decode cX7_isFit 130 = .ok (.iconst 0, 1) := by decide +kernel
theorem dX7_isFit_131 : decode cX7_isFit 131 = .ok (.istore_n 2, 1) := by decide +kernel
theorem dX7_isFit_132 : decode cX7_isFit 132 = .ok (.iinc 3 1, 3) := by decide +kernel
theorem dX7_isFit_135 : decode cX7_isFit 135 = .ok (.goto (-69), 3) := by decide +kernel
theorem dX7_isFit_138 : decode cX7_isFit 138 = .ok (.iload_n 2, 1) := by decide +kernel
theorem dX7_isFit_139 : decode cX7_isFit 139 = .ok (.ireturn, 1) := by decide +kernel
theorem dX7_fits_0 : decode cX7_fits 0 = .ok (.iload_n 1, 1) := by decide +kernel
theorem dX7_fits_1 : decode cX7_fits 1 = .ok (.invokestatic 182, 3) := by decide +kernel
theorem dX7_fits_4 : decode cX7_fits 4 = .ok (.ifCond .ne 16, 3) := by decide +kernel
theorem dX7_fits_7 : decode cX7_fits 7 = .ok (.aload_n 0, 1) := by decide +kernel
theorem dX7_fits_8 : decode cX7_fits 8 = .ok (.iload_n 1, 1) := by decide +kernel
theorem dX7_fits_9 : decode cX7_fits 9 = .ok (.bipush 10, 2) := by decide +kernel
theorem dX7_fits_11 : decode cX7_fits 11 = .ok (.isub, 1) := by decide +kernel
theorem dX7_fits_12 : decode cX7_fits 12 = .ok (.invokevirtual 176, 3) := by decide +kernel
theorem dX7_fits_15 : decode cX7_fits 15 = .ok (.ifCond .ne 5, 3) := by decide +kernel
theorem dX7_fits_18 : decode cX7_fits 18 = .ok (.iconst (-1), 1) := by decide +kernel
theorem dX7_fits_19 : decode cX7_fits 19 = .ok (.ireturn, 1) := by decide +kernel
theorem dX7_fits_20 : decode cX7_fits 20 = .ok (.iconst 0, 1) := by decide +kernel
theorem dX7_fits_21 : decode cX7_fits 21 = .ok (.istore_n 2, 1) := by decide +kernel
theorem dX7_fits_22 : decode cX7_fits 22 = .ok (.bipush (-4), 2) := by decide +kernel
theorem dX7_fits_24 : decode cX7_fits 24 = .ok (.istore_n 3, 1) := by decide +kernel
theorem dX7_fits_25 : decode cX7_fits 25 = .ok (.iconst 0, 1) := by decide +kernel
theorem dX7_fits_26 : decode cX7_fits 26 = .ok (.istore 4, 2) := by decide +kernel
theorem dX7_fits_28 : decode cX7_fits 28 = .ok (.iconst 0, 1) := by decide +kernel
theorem dX7_fits_29 : decode cX7_fits 29 = .ok (.istore 5, 2) := by decide +kernel
theorem dX7_fits_31 : decode cX7_fits 31 = .ok (.iload 5, 2) := by decide +kernel
theorem dX7_fits_33 : decode cX7_fits 33 = .ok (.aload_n 0, 1) := by decide +kernel
theorem dX7_fits_34 : decode cX7_fits 34 = .ok (.invokevirtual 206, 3) := by decide +kernel
theorem dX7_fits_37 : decode cX7_fits 37 = .ok (.if_icmp .ge 60, 3) := by decide +kernel
theorem dX7_fits_40 : decode cX7_fits 40 = .ok (.aload_n 0, 1) := by decide +kernel
theorem dX7_fits_41 : decode cX7_fits 41 = .ok (.iload 5, 2) := by decide +kernel
theorem dX7_fits_43 : decode cX7_fits 43 = .ok (.invokevirtual 257, 3) := by decide +kernel
theorem dX7_fits_46 : decode cX7_fits 46 = .ok (.ifCond .eq 45, 3) := by decide +kernel
theorem dX7_fits_49 : decode cX7_fits 49 = .ok (.iload_n 2, 1) := by decide +kernel
theorem dX7_fits_50 : decode cX7_fits 50 = .ok (.ifCond .ne 8, 3) := by decide +kernel
theorem dX7_fits_53 : decode cX7_fits 53 = .ok (.iload 5, 2) := by decide +kernel
theorem dX7_fits_55 : decode cX7_fits 55 = .ok (.goto 4, 3) := by decide +kernel
theorem dX7_fits_58 : decode cX7_fits 58 = .ok (.iload_n 3, 1) := by decide +kernel
theorem dX7_fits_59 : decode cX7_fits 59 = .ok (.istore_n 3, 1) := by decide +kernel
theorem dX7_fits_60 : decode cX7_fits 60 = .ok (.iload 4, 2) := by decide +kernel
theorem dX7_fits_62 : decode cX7_fits 62 = .ok (.iload_n 1, 1) := by decide +kernel
theorem dX7_fits_63 : decode cX7_fits 63 = .ok (.bipush 10, 2) := by decide +kernel
theorem dX7_fits_65 : decode cX7_fits 65 = .ok (.if_icmp .ge 7, 3) := by decide +kernel
theorem dX7_fits_68 : decode cX7_fits 68 = .ok (.iconst 0, 1) := by decide +kernel
theorem dX7_fits_69 : decode cX7_fits 69 = .ok (.goto 16, 3) := by decide +kernel
theorem dX7_fits_72 : decode cX7_fits 72 = .ok (.iconst 1, 1) := by decide +kernel
theorem dX7_fits_73 : decode cX7_fits 73 = .ok (.aload_n 0, 1) := by decide +kernel
theorem dX7_fits_74 : decode cX7_fits 74 = .ok (.getfield 13, 3) := by decide +kernel
theorem dX7_fits_77 : decode cX7_fits 77 = .ok (.iconst 0, 1) := by decide +kernel
theorem dX7_fits_78 : decode cX7_fits 78 = .ok (.iload_n 1, 1) := by decide +kernel
theorem dX7_fits_79 : decode cX7_fits 79 = .ok (.iadd, 1) := by decide +kernel
theorem dX7_fits_80 : decode cX7_fits 80 = .ok (.bipush 10, 2) := by decide +kernel
theorem dX7_fits_82 : decode cX7_fits 82 = .ok (.isub, 1) := by decide +kernel
theorem dX7_fits_83 : decode cX7_fits 83 = .ok (.iaload, 1) := by decide +kernel
theorem dX7_fits_84 : decode cX7_fits 84 = .ok (.ishl, 1) := by decide +kernel
theorem dX7_fits_85 : decode cX7_fits 85 = .ok (.ior, 1) := by decide +kernel
theorem dX7_fits_86 : decode cX7_fits 86 = .ok (.istore 4, 2) := by decide +kernel
theorem dX7_fits_88 : decode cX7_fits 88 = .ok (.iinc 2 1, 3) := by decide +kernel
theorem dX7_fits_91 : decode cX7_fits 91 = .ok (.iinc 5 1, 3) := by decide +kernel
theorem dX7_fits_94 : decode cX7_fits 94 = .ok (.goto (-63), 3) := by decide +kernel
theorem dX7_fits_97 : decode cX7_fits 97 = .ok (.iload_n 1, 1) := by decide +kernel
theorem dX7_fits_98 : decode cX7_fits 98 = .ok (.ifCond .ne 7, 3) := by decide +kernel
theorem dX7_fits_101 : decode cX7_fits 101 = .ok (.iload_n 2, 1) := by decide +kernel
theorem dX7_fits_102 : decode cX7_fits 102 = .ok (.goto 14, 3) := by decide +kernel
theorem dX7_fits_105 : decode cX7_fits 105 = .ok (.iload_n 1, 1) := by decide +kernel
theorem dX7_fits_106 : decode cX7_fits 106 = .ok (.iconst 1, 1) := by decide +kernel
theorem dX7_fits_107 : decode cX7_fits 107 = .ok (.if_icmp .ne 7, 3) := by decide +kernel
theorem dX7_fits_110 : decode cX7_fits 110 = .ok (.iload_n 3, 1) := by decide +kernel
theorem dX7_fits_111 : decode cX7_fits 111 = .ok (.goto 5, 3) := by decide +kernel
theorem dX7_fits_114 : decode cX7_fits 114 = .ok (.iload 4, 2) := by decide +kernel
theorem dX7_fits_116 : decode cX7_fits 116 = .ok (.ireturn, 1) := by decide +kernel
theorem dX7_look_0 : decode cX7_look 0 = .ok (.iload_n 1, 1) := by decide +kernel
theorem dX7_look_1 : decode cX7_look 1 = .ok (.invokestatic 182, 3) := by decide +kernel
theorem dX7_look_4 : decode cX7_look 4 = .ok (.ifCond .ne 5, 3) := by decide +kernel
theorem dX7_look_7 : decode cX7_look 7 = .ok (.iconst (-1), 1) := by decide +kernel
theorem dX7_look_8 : decode cX7_look 8 = .ok (.ireturn, 1) := by decide +kernel
theorem dX7_look_9 : decode cX7_look 9 = .ok (.iconst 0, 1) := by decide +kernel
theorem dX7_look_10 : decode cX7_look 10 = .ok (.istore_n 2, 1) := by decide +kernel
theorem dX7_look_11 : decode cX7_look 11 = .ok (.bipush (-4), 2) := by decide +kernel
theorem dX7_look_13 : decode cX7_look 13 = .ok (.istore_n 3, 1) := by decide +kernel
theorem dX7_look_14 : decode cX7_look 14 = .ok (.iconst 0, 1) := by decide +kernel
theorem dX7_look_15 : decode cX7_look 15 = .ok (.istore 4, 2) := by decide +kernel
theorem dX7_look_17 : decode cX7_look 17 = .ok (.iload 4, 2) := by decide +kernel
theorem dX7_look_19 : decode cX7_look 19 = .ok (.sipush 5000, 3) := by decide +kernel
theorem dX7_look_22 : decode cX7_look 22 = .ok (.if_icmp .ge 17, 3) := by decide +kernel
theorem dX7_look_25 : decode cX7_look 25 = .ok (.aload_n 0, 1) := by decide +kernel
theorem dX7_look_26 : decode cX7_look 26 = .ok (.getfield 32, 3) := by decide +kernel
theorem dX7_look_29 : decode cX7_look 29 = .ok (.iload 4, 2) := by decide +kernel
theorem dX7_look_31 : decode cX7_look 31 = .ok (.iconst 0, 1) := by decide +kernel
theorem dX7_look_32 : decode cX7_look 32 = .ok (.iastore, 1) := by decide +kernel
theorem dX7_look_33 : decode cX7_look 33 = .ok (.iinc 4 1, 3) := by decide +kernel
theorem dX7_look_36 : decode cX7_look 36 = .ok (.goto (-19), 3) := by decide +kernel
theorem dX7_look_39 : decode cX7_look 39 = .ok (.iconst 0, 1) := by decide +kernel
theorem dX7_look_40 : decode cX7_look 40 = .ok (.istore 4, 2) := by decide +kernel
theorem dX7_look_42 : decode cX7_look 42 = .ok (.iload 4, 2) := by decide +kernel
theorem dX7_look_44 : decode cX7_look 44 = .ok (.aload_n 0, 1) := by decide +kernel
theorem dX7_look_45 : decode cX7_look 45 = .ok (.invokevirtual 206, 3) := by decide +kernel
theorem dX7_look_48 : decode cX7_look 48 = .ok (.if_icmp .ge 89, 3) := by decide +kernel
theorem dX7_look_51 : decode cX7_look 51 = .ok (.aload_n 0, 1) := by decide +kernel
theorem dX7_look_52 : decode cX7_look 52 = .ok (.iload 4, 2) := by decide +kernel
theorem dX7_look_54 : decode cX7_look 54 = .ok (.invokevirtual 257, 3) := by decide +kernel
theorem dX7_look_57 : decode cX7_look 57 = .ok (.ifCond .eq 74, 3) := by decide +kernel
theorem dX7_look_60 : decode cX7_look 60 = .ok (.iinc 2 1, 3) := by decide +kernel
theorem dX7_look_63 : decode cX7_look 63 = .ok (.iconst 0, 1) := by decide +kernel
theorem dX7_look_64 : decode cX7_look 64 = .ok (.istore 5, 2) := by decide +kernel
theorem dX7_look_66 : decode cX7_look 66 = .ok (.iload 5, 2) := by decide +kernel
theorem dX7_look_68 : decode cX7_look 68 = .ok (.aload_n 0, 1) := by decide +kernel
theorem dX7_look_69 : decode cX7_look 69 = .ok (.getfield 67, 3) := by decide +kernel
theorem dX7_look_72 : decode cX7_look 72 = .ok (.if_icmp .ge 59, 3) := by decide +kernel
theorem dX7_look_75 : decode cX7_look 75 = .ok (.iconst 1, 1) := by decide +kernel
theorem dX7_look_76 : decode cX7_look 76 = .ok (.istore 6, 2) := by decide +kernel
theorem dX7_look_78 : decode cX7_look 78 = .ok (.iload 6, 2) := by decide +kernel
theorem dX7_look_80 : decode cX7_look 80 = .ok (.bipush 9, 2) := by decide +kernel
theorem dX7_look_82 : decode cX7_look 82 = .ok (.if_icmp .gt 43, 3) := by decide +kernel
theorem dX7_look_85 : decode cX7_look 85 = .ok (.aload_n 0, 1) := by decide +kernel
theorem dX7_look_86 : decode cX7_look 86 = .ok (.getfield 32, 3) := by decide +kernel
theorem dX7_look_89 : decode cX7_look 89 = .ok (.bipush 100, 2) := by decide +kernel
theorem dX7_look_91 : decode cX7_look 91 = .ok (.bipush 10, 2) := by decide +kernel
theorem dX7_look_93 : decode cX7_look 93 = .ok (.iload 5, 2) := by decide +kernel
theorem dX7_look_95 : decode cX7_look 95 = .ok (.imul, 1) := by decide +kernel
theorem dX7_look_96 : decode cX7_look 96 = .ok (.iload 6, 2) := by decide +kernel
theorem dX7_look_98 : decode cX7_look 98 = .ok (.iadd, 1) := by decide +kernel
theorem dX7_look_99 : decode cX7_look 99 = .ok (.imul, 1) := by decide +kernel
theorem dX7_look_100 : decode cX7_look 100 = .ok (.aload_n 0, 1) := by decide +kernel
theorem dX7_look_101 : decode cX7_look 101 = .ok (.getfield 29, 3) := by decide +kernel
theorem dX7_look_104 : decode cX7_look 104 = .ok (.bipush 10, 2) := by decide +kernel
theorem dX7_look_106 : decode cX7_look 106 = .ok (.iload 5, 2) := by decide +kernel
theorem dX7_look_108 : decode cX7_look 108 = .ok (.imul, 1) := by decide +kernel
theorem dX7_look_109 : decode cX7_look 109 = .ok (.iload 6, 2) := by decide +kernel
theorem dX7_look_111 : decode cX7_look 111 = .ok (.iadd, 1) := by decide +kernel
theorem dX7_look_112 : decode cX7_look 112 = .ok (.iaload, 1) := by decide +kernel
theorem dX7_look_113 : decode cX7_look 113 = .ok (.iadd, 1) := by decide +kernel
theorem dX7_look_114 : decode cX7_look 114 = .ok (.dup2, 1) := by decide +kernel
theorem dX7_look_115 : decode cX7_look 115 = .ok (.iaload, 1) := by decide +kernel
theorem dX7_look_116 : decode cX7_look 116 = .ok (.iconst 1, 1) := by decide +kernel
theorem dX7_look_117 : decode cX7_look 117 = .ok (.iadd, 1) := by decide +kernel
theorem dX7_look_118 : decode cX7_look 118 = .ok (.iastore, 1) := by decide +kernel
theorem dX7_look_119 : decode cX7_look 119 = .ok (.iinc 6 1, 3) := by decide +kernel
theorem dX7_look_122 : decode cX7_look 122 = .ok (.goto (-44), 3) := by decide +kernel
theorem dX7_look_125 : decode cX7_look 125 = .ok (.iinc 5 1, 3) := by decide +kernel
theorem dX7_look_128 : decode cX7_look 128 = .ok (.goto (-62), 3) := by decide +kernel
theorem dX7_look_131 : decode cX7_look 131 = .ok (.iinc 4 1, 3) := by decide +kernel
theorem dX7_look_134 : decode cX7_look 134 = .ok (.goto (-92), 3) := by decide +kernel
theorem dX7_look_137 : decode cX7_look 137 = .ok (.iconst 0, 1) := by decide +kernel
theorem dX7_look_138 : decode cX7_look 138 = .ok (.istore 4, 2) := by decide +kernel
theorem dX7_look_140 : decode cX7_look 140 = .ok (.iload 4, 2) := by decide +kernel
theorem dX7_look_142 : decode cX7_look 142 = .ok (.aload_n 0, 1) := by decide +kernel
theorem dX7_look_143 : decode cX7_look 143 = .ok (.getfield 67, 3) := by decide +kernel
theorem dX7_look_146 : decode cX7_look 146 = .ok (.if_icmp .ge 107, 3) := by decide +kernel
theorem dX7_look_149 : decode cX7_look 149 = .ok (.iconst 1, 1) := by decide +kernel
theorem dX7_look_150 : decode cX7_look 150 = .ok (.istore 5, 2) := by decide +kernel
theorem dX7_look_152 : decode cX7_look 152 = .ok (.iload 5, 2) := by decide +kernel
theorem dX7_look_154 : decode cX7_look 154 = .ok (.bipush 9, 2) := by decide +kernel
theorem dX7_look_156 : decode cX7_look 156 = .ok (.if_icmp .gt 91, 3) := by decide +kernel
theorem dX7_look_159 : decode cX7_look 159 = .ok (.iconst 0, 1) := by decide +kernel
theorem dX7_look_160 : decode cX7_look 160 = .ok (.istore 6, 2) := by decide +kernel
theorem dX7_look_162 : decode cX7_look 162 = .ok (.iconst 0, 1) := by decide +kernel
theorem dX7_look_163 : decode cX7_look 163 = .ok (.istore 7, 2) := by decide +kernel
theorem dX7_look_165 : decode cX7_look 165 = .ok (.iload 7, 2) := by decide +kernel
theorem dX7_look_167 : decode cX7_look 167 = .ok (.bipush 99, 2) := by decide +kernel
theorem dX7_look_169 : decode cX7_look 169 = .ok (.if_icmp .gt 46, 3) := by decide +kernel
theorem dX7_look_172 : decode cX7_look 172 = .ok (.aload_n 0, 1) := by decide +kernel
theorem dX7_look_173 : decode cX7_look 173 = .ok (.getfield 32, 3) := by decide +kernel
theorem dX7_look_176 : decode cX7_look 176 = .ok (.bipush 100, 2) := by decide +kernel
theorem dX7_look_178 : decode cX7_look 178 = .ok (.bipush 10, 2) := by decide +kernel
theorem dX7_look_180 : decode cX7_look 180 = .ok (.iload 4, 2) := by decide +kernel
theorem dX7_look_182 : decode cX7_look 182 = .ok (.imul, 1) := by decide +kernel
theorem dX7_look_183 : decode cX7_look 183 = .ok (.iload 5, 2) := by decide +kernel
theorem dX7_look_185 : decode cX7_look 185 = .ok (.iadd, 1) := by decide +kernel
theorem dX7_look_186 : decode cX7_look 186 = .ok (.imul, 1) := by decide +kernel
theorem dX7_look_187 : decode cX7_look 187 = .ok (.iload 7, 2) := by decide +kernel
theorem dX7_look_189 : decode cX7_look 189 = .ok (.iadd, 1) := by decide +kernel
theorem dX7_look_190 : decode cX7_look 190 = .ok (.iaload, 1) := by decide +kernel
theorem dX7_look_191 : decode cX7_look 191 = .ok (.istore 8, 2) := by decide +kernel
theorem dX7_look_193 : decode cX7_look 193 = .ok (.iload 8, 2) := by decide +kernel
theorem dX7_look_195 : decode cX7_look 195 = .ok (.iload 6, 2) := by decide +kernel
theorem dX7_look_197 : decode cX7_look 197 = .ok (.if_icmp .le 8, 3) := by decide +kernel
theorem dX7_look_200 : decode cX7_look 200 = .ok (.iload 8, 2) := by decide +kernel
theorem dX7_look_202 : decode cX7_look 202 = .ok (.goto 5, 3) := by decide +kernel
theorem dX7_look_205 : decode cX7_look 205 = .ok (.iload 6, 2) := by decide +kernel
theorem dX7_look_207 : decode cX7_look 207 = .ok (.istore 6, 2) := by decide +kernel
theorem dX7_look_209 : decode cX7_look 209 = .ok (.iinc 7 1, 3) := by decide +kernel
theorem dX7_look_212 : decode cX7_look 212 = .ok (.goto (-47), 3) := by decide +kernel
theorem dX7_look_215 : decode cX7_look 215 = .ok (.iload 6, 2) := by decide +kernel
theorem dX7_look_217 : decode cX7_look 217 = .ok (.iload_n 2, 1) := by decide +kernel
theorem dX7_look_218 : decode cX7_look 218 = .ok (.if_icmp .ge 14, 3) := by decide +kernel
theorem dX7_look_221 : decode cX7_look 221 = .ok (.bipush 10, 2) := by decide +kernel
theorem dX7_look_223 : decode cX7_look 223 = .ok (.iload 4, 2) := by decide +kernel
theorem dX7_look_225 : decode cX7_look 225 = .ok (.imul, 1) := by decide +kernel
theorem dX7_look_226 : decode cX7_look 226 = .ok (.iload 5, 2) := by decide +kernel
theorem dX7_look_228 : decode cX7_look 228 = .ok (.iadd, 1) := by decide +kernel
theorem dX7_look_229 : decode cX7_look 229 = .ok (.goto 4, 3) := by decide +kernel
theorem dX7_look_232 : decode cX7_look 232 = .ok (.iload_n 3, 1) := by decide +kernel
theorem dX7_look_233 : decode cX7_look 233 = .ok (.istore_n 3, 1) := by decide +kernel
theorem dX7_look_234 : decode cX7_look 234 = .ok (.iload 6, 2) := by decide +kernel
theorem dX7_look_236 : decode cX7_look 236 = .ok (.iload_n 2, 1) := by decide +kernel
theorem dX7_look_237 : decode cX7_look 237 = .ok (.invokestatic 151, 3) := by decide +kernel
theorem dX7_look_240 : decode cX7_look 240 = .ok (.istore_n 2, 1) := by decide +kernel
theorem dX7_look_241 : decode cX7_look 241 = .ok (.iinc 5 1, 3) := by decide +kernel
theorem dX7_look_244 : decode cX7_look 244 = .ok (.goto (-92), 3) := by decide +kernel
theorem dX7_look_247 : decode cX7_look 247 = .ok (.iinc 4 1, 3) := by decide +kernel
theorem dX7_look_250 : decode cX7_look 250 = .ok (.goto (-110), 3) := by decide +kernel
theorem dX7_look_253 : decode cX7_look 253 = .ok (.iload_n 3, 1) := by decide +kernel
theorem dX7_look_254 : decode cX7_look 254 = .ok (.bipush (-4), 2) := by decide +kernel
theorem dX7_look_256 : decode cX7_look 256 = .ok (.if_icmp .ne 8, 3) := by decide +kernel
theorem dX7_look_259 : decode cX7_look 259 = .ok (.bipush (-4), 2) := by decide +kernel
theorem dX7_look_261 : decode cX7_look 261 = .ok (.goto 12, 3) := by decide +kernel
theorem dX7_look_264 : decode cX7_look 264 = .ok (.iload_n 1, 1) := by decide +kernel
theorem dX7_look_265 : decode cX7_look 265 = .ok (.ifCond .ne 7, 3) := by decide +kernel
theorem dX7_look_268 : decode cX7_look 268 = .ok (.iload_n 3, 1) := by decide +kernel
theorem dX7_look_269 : decode cX7_look 269 = .ok (.goto 4, 3) := by decide +kernel
theorem dX7_look_272 : decode cX7_look 272 = .ok (.iload_n 2, 1) := by decide +kernel
theorem dX7_look_273 : decode cX7_look 273 = .ok (.ireturn, 1) := by decide +kernel
theorem dX7_drift_0 : decode cX7_drift 0 = .ok (.iload_n 2, 1) := by decide +kernel
theorem dX7_drift_1 : decode cX7_drift 1 = .ok (.i2l, 1) := by decide +kernel
theorem dX7_drift_2 : decode cX7_drift 2 = .ok (.lconst 1, 1) := by decide +kernel
theorem dX7_drift_3 : decode cX7_drift 3 = .ok (.ldc2_w 260, 3) := by decide +kernel
theorem dX7_drift_6 : decode cX7_drift 6 = .ok (.invokestatic 72, 3) := by decide +kernel
theorem dX7_drift_9 : decode cX7_drift 9 = .ok (.ifCond .eq 10, 3) := by decide +kernel
theorem dX7_drift_12 : decode cX7_drift 12 = .ok (.iload_n 3, 1) := by decide +kernel
theorem dX7_drift_13 : decode cX7_drift 13 = .ok (.invokestatic 182, 3) := by decide +kernel
theorem dX7_drift_16 : decode cX7_drift 16 = .ok (.ifCond .ne 5, 3) := by decide +kernel
theorem dX7_drift_19 : decode cX7_drift 19 = .ok (.iconst (-1), 1) := by decide +kernel
theorem dX7_drift_20 : decode cX7_drift 20 = .ok (.ireturn, 1) := by decide +kernel
theorem dX7_drift_21 : decode cX7_drift 21 = .ok (.aload_n 0, 1) := by decide +kernel
theorem dX7_drift_22 : decode cX7_drift 22 = .ok (.getfield 67, 3) := by decide +kernel
theorem dX7_drift_25 : decode cX7_drift 25 = .ok (.ifCond .ne 6, 3) := by decide +kernel
theorem dX7_drift_28 : decode cX7_drift 28 = .ok (.bipush (-2), 2) := by decide +kernel
theorem dX7_drift_30 : decode cX7_drift 30 = .ok (.ireturn, 1) := by decide +kernel
theorem dX7_drift_31 : decode cX7_drift 31 = .ok (.iload_n 1, 1) := by decide +kernel
theorem dX7_drift_32 : decode cX7_drift 32 = .ok (.istore 4, 2) := by decide +kernel
theorem dX7_drift_34 : decode cX7_drift 34 = .ok (.aload_n 0, 1) := by decide +kernel
theorem dX7_drift_35 : decode cX7_drift 35 = .ok (.invokevirtual 170, 3) := by decide +kernel
theorem dX7_drift_38 : decode cX7_drift 38 = .ok (.iconst 0, 1) := by decide +kernel
theorem dX7_drift_39 : decode cX7_drift 39 = .ok (.istore 5, 2) := by decide +kernel
theorem dX7_drift_41 : decode cX7_drift 41 = .ok (.iload 5, 2) := by decide +kernel
theorem dX7_drift_43 : decode cX7_drift 43 = .ok (.iload_n 2, 1) := by decide +kernel
theorem dX7_drift_44 : decode cX7_drift 44 = .ok (.if_icmp .ge 66, 3) := by decide +kernel
theorem dX7_drift_47 : decode cX7_drift 47 = .ok (.iload 4, 2) := by decide +kernel
theorem dX7_drift_49 : decode cX7_drift 49 = .ok (.ldc_w 262, 3) := by decide +kernel
theorem dX7_drift_52 : decode cX7_drift 52 = .ok (.imul, 1) := by decide +kernel
theorem dX7_drift_53 : decode cX7_drift 53 = .ok (.sipush 12345, 3) := by decide +kernel
theorem dX7_drift_56 : decode cX7_drift 56 = .ok (.iadd, 1) := by decide +kernel
theorem dX7_drift_57 : decode cX7_drift 57 = .ok (.istore 4, 2) := by decide +kernel
theorem dX7_drift_59 : decode cX7_drift 59 = .ok (.iload 4, 2) := by decide +kernel
theorem dX7_drift_61 : decode cX7_drift 61 = .ok (.bipush 16, 2) := by decide +kernel
theorem dX7_drift_63 : decode cX7_drift 63 = .ok (.ishr, 1) := by decide +kernel
theorem dX7_drift_64 : decode cX7_drift 64 = .ok (.sipush 32767, 3) := by decide +kernel
theorem dX7_drift_67 : decode cX7_drift 67 = .ok (.iand, 1) := by decide +kernel
theorem dX7_drift_68 : decode cX7_drift 68 = .ok (.istore 6, 2) := by decide +kernel
theorem dX7_drift_70 : decode cX7_drift 70 = .ok (.iload 6, 2) := by decide +kernel
theorem dX7_drift_72 : decode cX7_drift 72 = .ok (.bipush 8, 2) := by decide +kernel
theorem dX7_drift_74 : decode cX7_drift 74 = .ok (.irem, 1) := by decide +kernel
theorem dX7_drift_75 : decode cX7_drift 75 = .ok (.iconst 1, 1) := by decide +kernel
theorem dX7_drift_76 : decode cX7_drift 76 = .ok (.if_icmp .le 28, 3) := by decide +kernel
theorem dX7_drift_79 : decode cX7_drift 79 = .ok (.aload_n 0, 1) := by decide +kernel
theorem dX7_drift_80 : decode cX7_drift 80 = .ok (.getfield 13, 3) := by decide +kernel
theorem dX7_drift_83 : decode cX7_drift 83 = .ok (.iconst 0, 1) := by decide +kernel
theorem dX7_drift_84 : decode cX7_drift 84 = .ok (.aload_n 0, 1) := by decide +kernel
theorem dX7_drift_85 : decode cX7_drift 85 = .ok (.getfield 13, 3) := by decide +kernel
theorem dX7_drift_88 : decode cX7_drift 88 = .ok (.bipush 15, 2) := by decide +kernel
theorem dX7_drift_90 : decode cX7_drift 90 = .ok (.iaload, 1) := by decide +kernel
theorem dX7_drift_91 : decode cX7_drift 91 = .ok (.iadd, 1) := by decide +kernel
theorem dX7_drift_92 : decode cX7_drift 92 = .ok (.iload 6, 2) := by decide +kernel
theorem dX7_drift_94 : decode cX7_drift 94 = .ok (.bipush 8, 2) := by decide +kernel
theorem dX7_drift_96 : decode cX7_drift 96 = .ok (.idiv, 1) := by decide +kernel
theorem dX7_drift_97 : decode cX7_drift 97 = .ok (.iconst 4, 1) := by decide +kernel
theorem dX7_drift_98 : decode cX7_drift 98 = .ok (.irem, 1) := by decide +kernel
theorem dX7_drift_99 : decode cX7_drift 99 = .ok (.iastore, 1) := by decide +kernel
theorem dX7_drift_100 : decode cX7_drift 100 = .ok (.aload_n 0, 1) := by decide +kernel
theorem dX7_drift_101 : decode cX7_drift 101 = .ok (.invokevirtual 161, 3) := by decide +kernel
theorem dX7_drift_104 : decode cX7_drift 104 = .ok (.iinc 5 1, 3) := by decide +kernel
theorem dX7_drift_107 : decode cX7_drift 107 = .ok (.goto (-66), 3) := by decide +kernel
theorem dX7_drift_110 : decode cX7_drift 110 = .ok (.iload_n 3, 1) := by decide +kernel
theorem dX7_drift_111 : decode cX7_drift 111 = .ok (.ifCond .ne 21, 3) := by decide +kernel
theorem dX7_drift_114 : decode cX7_drift 114 = .ok (.aload_n 0, 1) := by decide +kernel
theorem dX7_drift_115 : decode cX7_drift 115 = .ok (.getfield 13, 3) := by decide +kernel
theorem dX7_drift_118 : decode cX7_drift 118 = .ok (.bipush 20, 2) := by decide +kernel
theorem dX7_drift_120 : decode cX7_drift 120 = .ok (.iaload, 1) := by decide +kernel
theorem dX7_drift_121 : decode cX7_drift 121 = .ok (.aload_n 0, 1) := by decide +kernel
theorem dX7_drift_122 : decode cX7_drift 122 = .ok (.getfield 7, 3) := by decide +kernel
theorem dX7_drift_125 : decode cX7_drift 125 = .ok (.bipush 20, 2) := by decide +kernel
theorem dX7_drift_127 : decode cX7_drift 127 = .ok (.iaload, 1) := by decide +kernel
theorem dX7_drift_128 : decode cX7_drift 128 = .ok (.isub, 1) := by decide +kernel
theorem dX7_drift_129 : decode cX7_drift 129 = .ok (.goto 8, 3) := by decide +kernel
theorem dX7_drift_132 : decode cX7_drift 132 = .ok (.aload_n 0, 1) := by decide +kernel
theorem dX7_drift_133 : decode cX7_drift 133 = .ok (.iconst 5, 1) := by decide +kernel
theorem dX7_drift_134 : decode cX7_drift 134 = .ok (.invokevirtual 173, 3) := by decide +kernel
theorem dX7_drift_137 : decode cX7_drift 137 = .ok (.ireturn, 1) := by decide +kernel
theorem dX7_copies_0 : decode cX7_copies 0 = .ok (.iconst 0, 1) := by decide +kernel
theorem dX7_copies_1 : decode cX7_copies 1 = .ok (.istore_n 3, 1) := by decide +kernel
theorem dX7_copies_2 : decode cX7_copies 2 = .ok (.iload_n 3, 1) := by decide +kernel
theorem dX7_copies_3 : decode cX7_copies 3 = .ok (.bipush 41, 2) := by decide +kernel
theorem dX7_copies_5 : decode cX7_copies 5 = .ok (.if_icmp .ge 25, 3) := by decide +kernel
theorem dX7_copies_8 : decode cX7_copies 8 = .ok (.aload_n 0, 1) := by decide +kernel
theorem dX7_copies_9 : decode cX7_copies 9 = .ok (.getfield 7, 3) := by decide +kernel
theorem dX7_copies_12 : decode cX7_copies 12 = .ok (.iload_n 1, 1) := by decide +kernel
theorem dX7_copies_13 : decode cX7_copies 13 = .ok (.iload_n 3, 1) := by decide +kernel
theorem dX7_copies_14 : decode cX7_copies 14 = .ok (.iadd, 1) := by decide +kernel
theorem dX7_copies_15 : decode cX7_copies 15 = .ok (.aload_n 0, 1) := by decide +kernel
theorem dX7_copies_16 : decode cX7_copies 16 = .ok (.getfield 7, 3) := by decide +kernel
theorem dX7_copies_19 : decode cX7_copies 19 = .ok (.iload_n 2, 1) := by decide +kernel
theorem dX7_copies_20 : decode cX7_copies 20 = .ok (.iload_n 3, 1) := by decide +kernel
theorem dX7_copies_21 : decode cX7_copies 21 = .ok (.iadd, 1) := by decide +kernel
theorem dX7_copies_22 : decode cX7_copies 22 = .ok (.iaload, 1) := by decide +kernel
theorem dX7_copies_23 : decode cX7_copies 23 = .ok (.iastore, 1) := by decide +kernel
theorem dX7_copies_24 : decode cX7_copies 24 = .ok (.iinc 3 1, 3) := by decide +kernel
theorem dX7_copies_27 : decode cX7_copies 27 = .ok (.goto (-25), 3) := by decide +kernel
theorem dX7_copies_30 : decode cX7_copies 30 = .ok (.return_, 1) := by decide +kernel
theorem dX7_keep_0 : decode cX7_keep 0 = .ok (.iload_n 1, 1) := by decide +kernel
theorem dX7_keep_1 : decode cX7_keep 1 = .ok (.i2l, 1) := by decide +kernel
theorem dX7_keep_2 : decode cX7_keep 2 = .ok (.lconst 0, 1) := by decide +kernel
theorem dX7_keep_3 : decode cX7_keep 3 = .ok (.lconst 1, 1) := by decide +kernel
theorem dX7_keep_4 : decode cX7_keep 4 = .ok (.invokestatic 72, 3) := by decide +kernel
theorem dX7_keep_7 : decode cX7_keep 7 = .ok (.ifCond .ne 5, 3) := by decide +kernel
theorem dX7_keep_10 : decode cX7_keep 10 = .ok (.iconst (-1), 1) := by decide +kernel
theorem dX7_keep_11 : decode cX7_keep 11 = .ok (.ireturn, 1) := by decide +kernel
theorem dX7_keep_12 : decode cX7_keep 12 = .ok (.aload_n 0, 1) := by decide +kernel
theorem dX7_keep_13 : decode cX7_keep 13 = .ok (.getfield 16, 3) := by decide +kernel
theorem dX7_keep_16 : decode cX7_keep 16 = .ok (.iload_n 1, 1) := by decide +kernel
theorem dX7_keep_17 : decode cX7_keep 17 = .ok (.baload, 1) := by decide +kernel
theorem dX7_keep_18 : decode cX7_keep 18 = .ok (.invokestatic 215, 3) := by decide +kernel
theorem dX7_keep_21 : decode cX7_keep 21 = .ok (.istore_n 2, 1) := by decide +kernel
theorem dX7_keep_22 : decode cX7_keep 22 = .ok (.aload_n 0, 1) := by decide +kernel
theorem dX7_keep_23 : decode cX7_keep 23 = .ok (.getfield 16, 3) := by decide +kernel
theorem dX7_keep_26 : decode cX7_keep 26 = .ok (.iload_n 1, 1) := by decide +kernel
theorem dX7_keep_27 : decode cX7_keep 27 = .ok (.iconst 1, 1) := by decide +kernel
theorem dX7_keep_28 : decode cX7_keep 28 = .ok (.bastore, 1) := by decide +kernel
theorem dX7_keep_29 : decode cX7_keep 29 = .ok (.aload_n 0, 1) := by decide +kernel
theorem dX7_keep_30 : decode cX7_keep 30 = .ok (.bipush 41, 2) := by decide +kernel
theorem dX7_keep_32 : decode cX7_keep 32 = .ok (.iload_n 1, 1) := by decide +kernel
theorem dX7_keep_33 : decode cX7_keep 33 = .ok (.iconst 1, 1) := by decide +kernel
theorem dX7_keep_34 : decode cX7_keep 34 = .ok (.iadd, 1) := by decide +kernel
theorem dX7_keep_35 : decode cX7_keep 35 = .ok (.imul, 1) := by decide +kernel
theorem dX7_keep_36 : decode cX7_keep 36 = .ok (.iconst 0, 1) := by decide +kernel
theorem dX7_keep_37 : decode cX7_keep 37 = .ok (.invokevirtual 263, 3) := by decide +kernel
theorem dX7_keep_40 : decode cX7_keep 40 = .ok (.iload_n 2, 1) := by decide +kernel
theorem dX7_keep_41 : decode cX7_keep 41 = .ok (.ireturn, 1) := by decide +kernel
theorem dX7_back_0 : decode cX7_back 0 = .ok (.iload_n 1, 1) := by decide +kernel
theorem dX7_back_1 : decode cX7_back 1 = .ok (.i2l, 1) := by decide +kernel
theorem dX7_back_2 : decode cX7_back 2 = .ok (.lconst 0, 1) := by decide +kernel
theorem dX7_back_3 : decode cX7_back 3 = .ok (.lconst 1, 1) := by decide +kernel
theorem dX7_back_4 : decode cX7_back 4 = .ok (.invokestatic 72, 3) := by decide +kernel
theorem dX7_back_7 : decode cX7_back 7 = .ok (.ifCond .ne 5, 3) := by decide +kernel
theorem dX7_back_10 : decode cX7_back 10 = .ok (.iconst (-1), 1) := by decide +kernel
theorem dX7_back_11 : decode cX7_back 11 = .ok (.ireturn, 1) := by decide +kernel
theorem dX7_back_12 : decode cX7_back 12 = .ok (.aload_n 0, 1) := by decide +kernel
theorem dX7_back_13 : decode cX7_back 13 = .ok (.getfield 16, 3) := by decide +kernel
theorem dX7_back_16 : decode cX7_back 16 = .ok (.iload_n 1, 1) := by decide +kernel
theorem dX7_back_17 : decode cX7_back 17 = .ok (.baload, 1) := by decide +kernel
theorem dX7_back_18 : decode cX7_back 18 = .ok (.ifCond .ne 6, 3) := by decide +kernel
theorem dX7_back_21 : decode cX7_back 21 = .ok (.bipush (-2), 2) := by decide +kernel
theorem dX7_back_23 : decode cX7_back 23 = .ok (.ireturn, 1) := by decide +kernel
theorem dX7_back_24 : decode cX7_back 24 = .ok (.aload_n 0, 1) := by decide +kernel
theorem dX7_back_25 : decode cX7_back 25 = .ok (.iconst 0, 1) := by decide +kernel
theorem dX7_back_26 : decode cX7_back 26 = .ok (.bipush 41, 2) := by decide +kernel
theorem dX7_back_28 : decode cX7_back 28 = .ok (.iload_n 1, 1) := by decide +kernel
theorem dX7_back_29 : decode cX7_back 29 = .ok (.iconst 1, 1) := by decide +kernel
theorem dX7_back_30 : decode cX7_back 30 = .ok (.iadd, 1) := by decide +kernel
theorem dX7_back_31 : decode cX7_back 31 = .ok (.imul, 1) := by decide +kernel
theorem dX7_back_32 : decode cX7_back 32 = .ok (.invokevirtual 263, 3) := by decide +kernel
theorem dX7_back_35 : decode cX7_back 35 = .ok (.aload_n 0, 1) := by decide +kernel
theorem dX7_back_36 : decode cX7_back 36 = .ok (.getfield 7, 3) := by decide +kernel
theorem dX7_back_39 : decode cX7_back 39 = .ok (.bipush 19, 2) := by decide +kernel
theorem dX7_back_41 : decode cX7_back 41 = .ok (.iaload, 1) := by decide +kernel
theorem dX7_back_42 : decode cX7_back 42 = .ok (.ireturn, 1) := by decide +kernel
theorem dX7_isSheet_0 : decode cX7_isSheet 0 = .ok (.iload_n 0, 1) := by decide +kernel
theorem dX7_isSheet_1 : decode cX7_isSheet 1 = .ok (.i2l, 1) := by decide +kernel
theorem dX7_isSheet_2 : decode cX7_isSheet 2 = .ok (.lconst 0, 1) := by decide +kernel
theorem dX7_isSheet_3 : decode cX7_isSheet 3 = .ok (.ldc2_w 185, 3) := by decide +kernel
theorem dX7_isSheet_6 : decode cX7_isSheet 6 = .ok (.invokestatic 72, 3) := by decide +kernel
theorem dX7_isSheet_9 : decode cX7_isSheet 9 = .ok (.ifCond .eq 19, 3) := by decide +kernel
theorem dX7_isSheet_12 : decode cX7_isSheet 12 = .ok (.iload_n 1, 1) := by decide +kernel
theorem dX7_isSheet_13 : decode cX7_isSheet 13 = .ok (.i2l, 1) := by decide +kernel
theorem dX7_isSheet_14 : decode cX7_isSheet 14 = .ok (.lconst 0, 1) := by decide +kernel
theorem dX7_isSheet_15 : decode cX7_isSheet 15 = .ok (.ldc2_w 180, 3) := by decide +kernel
theorem dX7_isSheet_18 : decode cX7_isSheet 18 = .ok (.invokestatic 72, 3) := by decide +kernel
theorem dX7_isSheet_21 : decode cX7_isSheet 21 = .ok (.ifCond .eq 7, 3) := by decide +kernel
theorem dX7_isSheet_24 : decode cX7_isSheet 24 = .ok (.iconst 1, 1) := by decide +kernel
theorem dX7_isSheet_25 : decode cX7_isSheet 25 = .ok (.goto 4, 3) := by decide +kernel
theorem dX7_isSheet_28 : decode cX7_isSheet 28 = .ok (.iconst 0, 1) := by decide +kernel
theorem dX7_isSheet_29 : decode cX7_isSheet 29 = .ok (.ireturn, 1) := by decide +kernel
theorem dX7_sheet_0 : decode cX7_sheet 0 = .ok (.iload_n 1, 1) := by decide +kernel
theorem dX7_sheet_1 : decode cX7_sheet 1 = .ok (.iload_n 2, 1) := by decide +kernel
theorem dX7_sheet_2 : decode cX7_sheet 2 = .ok (.invokestatic 266, 3) := by decide +kernel
theorem dX7_sheet_5 : decode cX7_sheet 5 = .ok (.ifCond .eq 9, 3) := by decide +kernel
theorem dX7_sheet_8 : decode cX7_sheet 8 = .ok (.iload_n 3, 1) := by decide +kernel
theorem dX7_sheet_9 : decode cX7_sheet 9 = .ok (.bipush 40, 2) := by decide +kernel
theorem dX7_sheet_11 : decode cX7_sheet 11 = .ok (.if_icmp .le 5, 3) := by decide +kernel
theorem dX7_sheet_14 : decode cX7_sheet 14 = .ok (.iconst (-1), 1) := by decide +kernel
theorem dX7_sheet_15 : decode cX7_sheet 15 = .ok (.ireturn, 1) := by decide +kernel
theorem dX7_sheet_16 : decode cX7_sheet 16 = .ok (.iload_n 3, 1) := by decide +kernel
theorem dX7_sheet_17 : decode cX7_sheet 17 = .ok (.ifCond .ge 6, 3) := by decide +kernel
theorem dX7_sheet_20 : decode cX7_sheet 20 = .ok (.bipush (-14), 2) := by decide +kernel
theorem dX7_sheet_22 : decode cX7_sheet 22 = .ok (.ireturn, 1) := by decide +kernel
theorem dX7_sheet_23 : decode cX7_sheet 23 = .ok (.aload_n 0, 1) := by decide +kernel
theorem dX7_sheet_24 : decode cX7_sheet 24 = .ok (.getfield 35, 3) := by decide +kernel
theorem dX7_sheet_27 : decode cX7_sheet 27 = .ok (.iload_n 1, 1) := by decide +kernel
theorem dX7_sheet_28 : decode cX7_sheet 28 = .ok (.iload_n 2, 1) := by decide +kernel
theorem dX7_sheet_29 : decode cX7_sheet 29 = .ok (.iastore, 1) := by decide +kernel
theorem dX7_sheet_30 : decode cX7_sheet 30 = .ok (.aload_n 0, 1) := by decide +kernel
theorem dX7_sheet_31 : decode cX7_sheet 31 = .ok (.getfield 38, 3) := by decide +kernel
theorem dX7_sheet_34 : decode cX7_sheet 34 = .ok (.iload_n 1, 1) := by decide +kernel
theorem dX7_sheet_35 : decode cX7_sheet 35 = .ok (.iload_n 3, 1) := by decide +kernel
theorem dX7_sheet_36 : decode cX7_sheet 36 = .ok (.iastore, 1) := by decide +kernel
theorem dX7_sheet_37 : decode cX7_sheet 37 = .ok (.iconst 0, 1) := by decide +kernel
theorem dX7_sheet_38 : decode cX7_sheet 38 = .ok (.istore 4, 2) := by decide +kernel
theorem dX7_sheet_40 : decode cX7_sheet 40 = .ok (.iload 4, 2) := by decide +kernel
theorem dX7_sheet_42 : decode cX7_sheet 42 = .ok (.bipush 40, 2) := by decide +kernel
theorem dX7_sheet_44 : decode cX7_sheet 44 = .ok (.if_icmp .ge 22, 3) := by decide +kernel
theorem dX7_sheet_47 : decode cX7_sheet 47 = .ok (.aload_n 0, 1) := by decide +kernel
theorem dX7_sheet_48 : decode cX7_sheet 48 = .ok (.getfield 41, 3) := by decide +kernel
theorem dX7_sheet_51 : decode cX7_sheet 51 = .ok (.bipush 40, 2) := by decide +kernel
theorem dX7_sheet_53 : decode cX7_sheet 53 = .ok (.iload_n 1, 1) := by decide +kernel
theorem dX7_sheet_54 : decode cX7_sheet 54 = .ok (.imul, 1) := by decide +kernel
theorem dX7_sheet_55 : decode cX7_sheet 55 = .ok (.iload 4, 2) := by decide +kernel
theorem dX7_sheet_57 : decode cX7_sheet 57 = .ok (.iadd, 1) := by decide +kernel
theorem dX7_sheet_58 : decode cX7_sheet 58 = .ok (.iconst 0, 1) := by decide +kernel
theorem dX7_sheet_59 : decode cX7_sheet 59 = .ok (.iastore, 1) := by decide +kernel
theorem dX7_sheet_60 : decode cX7_sheet 60 = .ok (.iinc 4 1, 3) := by decide +kernel
theorem dX7_sheet_63 : decode cX7_sheet 63 = .ok (.goto (-23), 3) := by decide +kernel
theorem dX7_sheet_66 : decode cX7_sheet 66 = .ok (.iconst 1, 1) := by decide +kernel
theorem dX7_sheet_67 : decode cX7_sheet 67 = .ok (.ireturn, 1) := by decide +kernel
theorem dX7_lay_0 : decode cX7_lay 0 = .ok (.iload_n 1, 1) := by decide +kernel
theorem dX7_lay_1 : decode cX7_lay 1 = .ok (.iconst 0, 1) := by decide +kernel
theorem dX7_lay_2 : decode cX7_lay 2 = .ok (.invokestatic 266, 3) := by decide +kernel
theorem dX7_lay_5 : decode cX7_lay 5 = .ok (.ifCond .ne 5, 3) := by decide +kernel
theorem dX7_lay_8 : decode cX7_lay 8 = .ok (.iconst (-1), 1) := by decide +kernel
theorem dX7_lay_9 : decode cX7_lay 9 = .ok (.ireturn, 1) := by decide +kernel
theorem dX7_lay_10 : decode cX7_lay 10 = .ok (.aload_n 0, 1) := by decide +kernel
theorem dX7_lay_11 : decode cX7_lay 11 = .ok (.getfield 35, 3) := by decide +kernel
theorem dX7_lay_14 : decode cX7_lay 14 = .ok (.iload_n 1, 1) := by decide +kernel
theorem dX7_lay_15 : decode cX7_lay 15 = .ok (.iaload, 1) := by decide +kernel
theorem dX7_lay_16 : decode cX7_lay 16 = .ok (.bipush (-4), 2) := by decide +kernel
theorem dX7_lay_18 : decode cX7_lay 18 = .ok (.if_icmp .ne 6, 3) := by decide +kernel
theorem dX7_lay_21 : decode cX7_lay 21 = .ok (.bipush (-11), 2) := by decide +kernel
theorem dX7_lay_23 : decode cX7_lay 23 = .ok (.ireturn, 1) := by decide +kernel
theorem dX7_lay_24 : decode cX7_lay 24 = .ok (.iload_n 2, 1) := by decide +kernel
theorem dX7_lay_25 : decode cX7_lay 25 = .ok (.i2l, 1) := by decide +kernel
theorem dX7_lay_26 : decode cX7_lay 26 = .ok (.lconst 0, 1) := by decide +kernel
theorem dX7_lay_27 : decode cX7_lay 27 = .ok (.aload_n 0, 1) := by decide +kernel
theorem dX7_lay_28 : decode cX7_lay 28 = .ok (.getfield 38, 3) := by decide +kernel
theorem dX7_lay_31 : decode cX7_lay 31 = .ok (.iload_n 1, 1) := by decide +kernel
theorem dX7_lay_32 : decode cX7_lay 32 = .ok (.iaload, 1) := by decide +kernel
theorem dX7_lay_33 : decode cX7_lay 33 = .ok (.iconst 1, 1) := by decide +kernel
theorem dX7_lay_34 : decode cX7_lay 34 = .ok (.isub, 1) := by decide +kernel
theorem dX7_lay_35 : decode cX7_lay 35 = .ok (.i2l, 1) := by decide +kernel
theorem dX7_lay_36 : decode cX7_lay 36 = .ok (.invokestatic 72, 3) := by decide +kernel
theorem dX7_lay_39 : decode cX7_lay 39 = .ok (.ifCond .ne 6, 3) := by decide +kernel
theorem dX7_lay_42 : decode cX7_lay 42 = .ok (.bipush (-12), 2) := by decide +kernel
theorem dX7_lay_44 : decode cX7_lay 44 = .ok (.ireturn, 1) := by decide +kernel
theorem dX7_lay_45 : decode cX7_lay 45 = .ok (.aload_n 0, 1) := by decide +kernel
theorem dX7_lay_46 : decode cX7_lay 46 = .ok (.getfield 41, 3) := by decide +kernel
theorem dX7_lay_49 : decode cX7_lay 49 = .ok (.bipush 40, 2) := by decide +kernel
theorem dX7_lay_51 : decode cX7_lay 51 = .ok (.iload_n 1, 1) := by decide +kernel
theorem dX7_lay_52 : decode cX7_lay 52 = .ok (.imul, 1) := by decide +kernel
theorem dX7_lay_53 : decode cX7_lay 53 = .ok (.iload_n 2, 1) := by decide +kernel
theorem dX7_lay_54 : decode cX7_lay 54 = .ok (.iadd, 1) := by decide +kernel
theorem dX7_lay_55 : decode cX7_lay 55 = .ok (.aload_n 0, 1) := by decide +kernel
theorem dX7_lay_56 : decode cX7_lay 56 = .ok (.getfield 35, 3) := by decide +kernel
theorem dX7_lay_59 : decode cX7_lay 59 = .ok (.iload_n 1, 1) := by decide +kernel
theorem dX7_lay_60 : decode cX7_lay 60 = .ok (.iaload, 1) := by decide +kernel
theorem dX7_lay_61 : decode cX7_lay 61 = .ok (.ifCond .ne 8, 3) := by decide +kernel
theorem dX7_lay_64 : decode cX7_lay 64 = .ok (.iload_n 3, 1) := by decide +kernel
theorem dX7_lay_65 : decode cX7_lay 65 = .ok (.i2b, 1) := by decide +kernel
theorem dX7_lay_66 : decode cX7_lay 66 = .ok (.goto 19, 3) := by decide +kernel
theorem dX7_lay_69 : decode cX7_lay 69 = .ok (.aload_n 0, 1) := by decide +kernel
theorem dX7_lay_70 : decode cX7_lay 70 = .ok (.getfield 35, 3) := by decide +kernel
theorem dX7_lay_73 : decode cX7_lay 73 = .ok (.iload_n 1, 1) := by decide +kernel
theorem dX7_lay_74 : decode cX7_lay 74 = .ok (.iaload, 1) := by decide +kernel
theorem dX7_lay_75 : decode cX7_lay 75 = .ok (.iconst 1, 1) := by decide +kernel
theorem dX7_lay_76 : decode cX7_lay 76 = .ok (.if_icmp .ne 8, 3) := by decide +kernel
theorem dX7_lay_79 : decode cX7_lay 79 = .ok (.iload_n 3, 1) := by decide +kernel
theorem dX7_lay_80 : decode cX7_lay 80 = .ok (.i2s, 1) := by decide +kernel
theorem dX7_lay_81 : decode cX7_lay 81 = .ok (.goto 4, 3) := by decide +kernel
theorem dX7_lay_84 : decode cX7_lay 84 = .ok (.iload_n 3, 1) := by decide +kernel
theorem dX7_lay_85 : decode cX7_lay 85 = .ok (.iastore, 1) := by decide +kernel
theorem dX7_lay_86 : decode cX7_lay 86 = .ok (.iconst 1, 1) := by decide +kernel
theorem dX7_lay_87 : decode cX7_lay 87 = .ok (.ireturn, 1) := by decide +kernel
theorem dX7_read_0 : decode cX7_read 0 = .ok (.iload_n 1, 1) := by decide +kernel
theorem dX7_read_1 : decode cX7_read 1 = .ok (.iload_n 2, 1) := by decide +kernel
theorem dX7_read_2 : decode cX7_read 2 = .ok (.invokestatic 266, 3) := by decide +kernel
theorem dX7_read_5 : decode cX7_read 5 = .ok (.ifCond .eq 16, 3) := by decide +kernel
theorem dX7_read_8 : decode cX7_read 8 = .ok (.iload 4, 2) := by decide +kernel
theorem dX7_read_10 : decode cX7_read 10 = .ok (.i2l, 1) := by decide +kernel
theorem dX7_read_11 : decode cX7_read 11 = .ok (.lconst 0, 1) := by decide +kernel
theorem dX7_read_12 : decode cX7_read 12 = .ok (.ldc2_w 192, 3) := by decide +kernel
theorem dX7_read_15 : decode cX7_read 15 = .ok (.invokestatic 72, 3) := by decide +kernel
theorem dX7_read_18 : decode cX7_read 18 = .ok (.ifCond .ne 5, 3) := by decide +kernel
theorem dX7_read_21 : decode cX7_read 21 = .ok (.iconst (-1), 1) := by decide +kernel
theorem dX7_read_22 : decode cX7_read 22 = .ok (.ireturn, 1) := by decide +kernel
theorem dX7_read_23 : decode cX7_read 23 = .ok (.iconst 0, 1) := by decide +kernel
theorem dX7_read_24 : decode cX7_read 24 = .ok (.istore 5, 2) := by decide +kernel
theorem dX7_read_26 : decode cX7_read 26 = .ok (.iload 5, 2) := by decide +kernel
theorem dX7_read_28 : decode cX7_read 28 = .ok (.bipush 41, 2) := by decide +kernel
theorem dX7_read_30 : decode cX7_read 30 = .ok (.if_icmp .ge 23, 3) := by decide +kernel
theorem dX7_read_33 : decode cX7_read 33 = .ok (.aload_n 0, 1) := by decide +kernel
theorem dX7_read_34 : decode cX7_read 34 = .ok (.getfield 44, 3) := by decide +kernel
theorem dX7_read_37 : decode cX7_read 37 = .ok (.iload 5, 2) := by decide +kernel
theorem dX7_read_39 : decode cX7_read 39 = .ok (.aload_n 0, 1) := by decide +kernel
theorem dX7_read_40 : decode cX7_read 40 = .ok (.getfield 7, 3) := by decide +kernel
theorem dX7_read_43 : decode cX7_read 43 = .ok (.iload 5, 2) := by decide +kernel
theorem dX7_read_45 : decode cX7_read 45 = .ok (.iaload, 1) := by decide +kernel
theorem dX7_read_46 : decode cX7_read 46 = .ok (.iastore, 1) := by decide +kernel
theorem dX7_read_47 : decode cX7_read 47 = .ok (.iinc 5 1, 3) := by decide +kernel
theorem dX7_read_50 : decode cX7_read 50 = .ok (.goto (-24), 3) := by decide +kernel
theorem dX7_read_53 : decode cX7_read 53 = .ok (.iconst 0, 1) := by decide +kernel
theorem dX7_read_54 : decode cX7_read 54 = .ok (.istore 5, 2) := by decide +kernel
theorem dX7_read_56 : decode cX7_read 56 = .ok (.iconst 0, 1) := by decide +kernel
theorem dX7_read_57 : decode cX7_read 57 = .ok (.istore 6, 2) := by decide +kernel
theorem dX7_read_59 : decode cX7_read 59 = .ok (.iconst 0, 1) := by decide +kernel
theorem dX7_read_60 : decode cX7_read 60 = .ok (.istore 7, 2) := by decide +kernel
theorem dX7_read_62 : decode cX7_read 62 = .ok (.iload 7, 2) := by decide +kernel
theorem dX7_read_64 : decode cX7_read 64 = .ok (.iload 4, 2) := by decide +kernel
theorem dX7_read_66 : decode cX7_read 66 = .ok (.if_icmp .ge 184, 3) := by decide +kernel
theorem dX7_read_69 : decode cX7_read 69 = .ok (.iload 5, 2) := by decide +kernel
theorem dX7_read_71 : decode cX7_read 71 = .ok (.ifCond .ne 179, 3) := by decide +kernel
theorem dX7_read_74 : decode cX7_read 74 = .ok (.iconst 0, 1) := by decide +kernel
theorem dX7_read_75 : decode cX7_read 75 = .ok (.istore 8, 2) := by decide +kernel
theorem dX7_read_77 : decode cX7_read 77 = .ok (.iload 8, 2) := by decide +kernel
theorem dX7_read_79 : decode cX7_read 79 = .ok (.iconst 2, 1) := by decide +kernel
theorem dX7_read_80 : decode cX7_read 80 = .ok (.if_icmp .ge 84, 3) := by decide +kernel
theorem dX7_read_83 : decode cX7_read 83 = .ok (.iload 5, 2) := by decide +kernel
theorem dX7_read_85 : decode cX7_read 85 = .ok (.ifCond .ne 79, 3) := by decide +kernel
theorem dX7_read_88 : decode cX7_read 88 = .ok (.iload_n 3, 1) := by decide +kernel
theorem dX7_read_89 : decode cX7_read 89 = .ok (.i2l, 1) := by decide +kernel
theorem dX7_read_90 : decode cX7_read 90 = .ok (.iconst 2, 1) := by decide +kernel
theorem dX7_read_91 : decode cX7_read 91 = .ok (.iload 7, 2) := by decide +kernel
theorem dX7_read_93 : decode cX7_read 93 = .ok (.imul, 1) := by decide +kernel
theorem dX7_read_94 : decode cX7_read 94 = .ok (.i2l, 1) := by decide +kernel
theorem dX7_read_95 : decode cX7_read 95 = .ok (.ladd, 1) := by decide +kernel
theorem dX7_read_96 : decode cX7_read 96 = .ok (.iload 8, 2) := by decide +kernel
theorem dX7_read_98 : decode cX7_read 98 = .ok (.i2l, 1) := by decide +kernel
theorem dX7_read_99 : decode cX7_read 99 = .ok (.ladd, 1) := by decide +kernel
theorem dX7_read_100 : decode cX7_read 100 = .ok (.lstore 9, 2) := by decide +kernel
theorem dX7_read_102 : decode cX7_read 102 = .ok (.aload_n 0, 1) := by decide +kernel
theorem dX7_read_103 : decode cX7_read 103 = .ok (.getfield 35, 3) := by decide +kernel
theorem dX7_read_106 : decode cX7_read 106 = .ok (.iload_n 1, 1) := by decide +kernel
theorem dX7_read_107 : decode cX7_read 107 = .ok (.iaload, 1) := by decide +kernel
theorem dX7_read_108 : decode cX7_read 108 = .ok (.bipush (-4), 2) := by decide +kernel
theorem dX7_read_110 : decode cX7_read 110 = .ok (.if_icmp .ne 7, 3) := by decide +kernel
theorem dX7_read_113 : decode cX7_read 113 = .ok (.iconst 1, 1) := by decide +kernel
theorem dX7_read_114 : decode cX7_read 114 = .ok (.goto 42, 3) := by decide +kernel
theorem dX7_read_117 : decode cX7_read 117 = .ok (.aload_n 0, 1) := by decide +kernel
theorem dX7_read_118 : decode cX7_read 118 = .ok (.getfield 35, 3) := by decide +kernel
theorem dX7_read_121 : decode cX7_read 121 = .ok (.iload_n 1, 1) := by decide +kernel
theorem dX7_read_122 : decode cX7_read 122 = .ok (.iaload, 1) := by decide +kernel
theorem dX7_read_123 : decode cX7_read 123 = .ok (.iload_n 2, 1) := by decide +kernel
theorem dX7_read_124 : decode cX7_read 124 = .ok (.if_icmp .eq 7, 3) := by decide +kernel
theorem dX7_read_127 : decode cX7_read 127 = .ok (.iconst 3, 1) := by decide +kernel
theorem dX7_read_128 : decode cX7_read 128 = .ok (.goto 28, 3) := by decide +kernel
theorem dX7_read_131 : decode cX7_read 131 = .ok (.lload 9, 2) := by decide +kernel
theorem dX7_read_133 : decode cX7_read 133 = .ok (.lconst 0, 1) := by decide +kernel
theorem dX7_read_134 : decode cX7_read 134 = .ok (.lcmp, 1) := by decide +kernel
theorem dX7_read_135 : decode cX7_read 135 = .ok (.ifCond .lt 16, 3) := by decide +kernel
theorem dX7_read_138 : decode cX7_read 138 = .ok (.lload 9, 2) := by decide +kernel
theorem dX7_read_140 : decode cX7_read 140 = .ok (.aload_n 0, 1) := by decide +kernel
theorem dX7_read_141 : decode cX7_read 141 = .ok (.getfield 38, 3) := by decide +kernel
theorem dX7_read_144 : decode cX7_read 144 = .ok (.iload_n 1, 1) := by decide +kernel
theorem dX7_read_145 : decode cX7_read 145 = .ok (.iaload, 1) := by decide +kernel
theorem dX7_read_146 : decode cX7_read 146 = .ok (.i2l, 1) := by decide +kernel
theorem dX7_read_147 : decode cX7_read 147 = .ok (.lcmp, 1) := by decide +kernel
theorem dX7_read_148 : decode cX7_read 148 = .ok (.ifCond .lt 7, 3) := by decide +kernel
theorem dX7_read_151 : decode cX7_read 151 = .ok (.iconst 2, 1) := by decide +kernel
theorem dX7_read_152 : decode cX7_read 152 = .ok (.goto 4, 3) := by decide +kernel
theorem dX7_read_155 : decode cX7_read 155 = .ok (.iconst 0, 1) := by decide +kernel
theorem dX7_read_156 : decode cX7_read 156 = .ok (.istore 5, 2) := by decide +kernel
theorem dX7_read_158 : decode cX7_read 158 = .ok (.iinc 8 1, 3) := by decide +kernel
theorem dX7_read_161 : decode cX7_read 161 = .ok (.goto (-84), 3) := by decide +kernel
theorem dX7_read_164 : decode cX7_read 164 = .ok (.iload 5, 2) := by decide +kernel
theorem dX7_read_166 : decode cX7_read 166 = .ok (.ifCond .ne 78, 3) := by decide +kernel
theorem dX7_read_169 : decode cX7_read 169 = .ok (.bipush 40, 2) := by decide +kernel
theorem dX7_read_171 : decode cX7_read 171 = .ok (.iload_n 1, 1) := by decide +kernel
theorem dX7_read_172 : decode cX7_read 172 = .ok (.imul, 1) := by decide +kernel
theorem dX7_read_173 : decode cX7_read 173 = .ok (.iload_n 3, 1) := by decide +kernel
theorem dX7_read_174 : decode cX7_read 174 = .ok (.iadd, 1) := by decide +kernel
theorem dX7_read_175 : decode cX7_read 175 = .ok (.iconst 2, 1) := by decide +kernel
theorem dX7_read_176 : decode cX7_read 176 = .ok (.iload 7, 2) := by decide +kernel
theorem dX7_read_178 : decode cX7_read 178 = .ok (.imul, 1) := by decide +kernel
theorem dX7_read_179 : decode cX7_read 179 = .ok (.iadd, 1) := by decide +kernel
theorem dX7_read_180 : decode cX7_read 180 = .ok (.istore 8, 2) := by decide +kernel
theorem dX7_read_182 : decode cX7_read 182 = .ok (.aload_n 0, 1) := by decide +kernel
theorem dX7_read_183 : decode cX7_read 183 = .ok (.aload_n 0, 1) := by decide +kernel
theorem dX7_read_184 : decode cX7_read 184 = .ok (.getfield 41, 3) := by decide +kernel
theorem dX7_read_187 : decode cX7_read 187 = .ok (.iload 8, 2) := by decide +kernel
theorem dX7_read_189 : decode cX7_read 189 = .ok (.iaload, 1) := by decide +kernel
theorem dX7_read_190 : decode cX7_read 190 = .ok (.aload_n 0, 1) := by decide +kernel
theorem dX7_read_191 : decode cX7_read 191 = .ok (.getfield 41, 3) := by decide +kernel
theorem dX7_read_194 : decode cX7_read 194 = .ok (.iload 8, 2) := by decide +kernel
theorem dX7_read_196 : decode cX7_read 196 = .ok (.iconst 1, 1) := by decide +kernel
theorem dX7_read_197 : decode cX7_read 197 = .ok (.iadd, 1) := by decide +kernel
theorem dX7_read_198 : decode cX7_read 198 = .ok (.iaload, 1) := by decide +kernel
theorem dX7_read_199 : decode cX7_read 199 = .ok (.invokevirtual 270, 3) := by decide +kernel
theorem dX7_read_202 : decode cX7_read 202 = .ok (.ifCond .ge 39, 3) := by decide +kernel
theorem dX7_read_205 : decode cX7_read 205 = .ok (.iconst 0, 1) := by decide +kernel
theorem dX7_read_206 : decode cX7_read 206 = .ok (.istore 9, 2) := by decide +kernel
theorem dX7_read_208 : decode cX7_read 208 = .ok (.iload 9, 2) := by decide +kernel
theorem dX7_read_210 : decode cX7_read 210 = .ok (.bipush 41, 2) := by decide +kernel
theorem dX7_read_212 : decode cX7_read 212 = .ok (.if_icmp .ge 23, 3) := by decide +kernel
theorem dX7_read_215 : decode cX7_read 215 = .ok (.aload_n 0, 1) := by decide +kernel
theorem dX7_read_216 : decode cX7_read 216 = .ok (.getfield 7, 3) := by decide +kernel
theorem dX7_read_219 : decode cX7_read 219 = .ok (.iload 9, 2) := by decide +kernel
theorem dX7_read_221 : decode cX7_read 221 = .ok (.aload_n 0, 1) := by decide +kernel
theorem dX7_read_222 : decode cX7_read 222 = .ok (.getfield 44, 3) := by decide +kernel
theorem dX7_read_225 : decode cX7_read 225 = .ok (.iload 9, 2) := by decide +kernel
theorem dX7_read_227 : decode cX7_read 227 = .ok (.iaload, 1) := by decide +kernel
theorem dX7_read_228 : decode cX7_read 228 = .ok (.iastore, 1) := by decide +kernel
theorem dX7_read_229 : decode cX7_read 229 = .ok (.iinc 9 1, 3) := by decide +kernel
theorem dX7_read_232 : decode cX7_read 232 = .ok (.goto (-24), 3) := by decide +kernel
theorem dX7_read_235 : decode cX7_read 235 = .ok (.bipush (-20), 2) := by decide +kernel
theorem dX7_read_237 : decode cX7_read 237 = .ok (.iload 7, 2) := by decide +kernel
theorem dX7_read_239 : decode cX7_read 239 = .ok (.isub, 1) := by decide +kernel
theorem dX7_read_240 : decode cX7_read 240 = .ok (.ireturn, 1) := by decide +kernel
theorem dX7_read_241 : decode cX7_read 241 = .ok (.iinc 6 1, 3) := by decide +kernel
theorem dX7_read_244 : decode cX7_read 244 = .ok (.iinc 7 1, 3) := by decide +kernel
theorem dX7_read_247 : decode cX7_read 247 = .ok (.goto (-185), 3) := by decide +kernel
theorem dX7_read_250 : decode cX7_read 250 = .ok (.aload_n 0, 1) := by decide +kernel
theorem dX7_read_251 : decode cX7_read 251 = .ok (.iload 5, 2) := by decide +kernel
theorem dX7_read_253 : decode cX7_read 253 = .ok (.putfield 273, 3) := by decide +kernel
theorem dX7_read_256 : decode cX7_read 256 = .ok (.iload 6, 2) := by decide +kernel
theorem dX7_read_258 : decode cX7_read 258 = .ok (.ireturn, 1) := by decide +kernel
theorem dX7_torn_0 : decode cX7_torn 0 = .ok (.aload_n 0, 1) := by decide +kernel
theorem dX7_torn_1 : decode cX7_torn 1 = .ok (.getfield 273, 3) := by decide +kernel
theorem dX7_torn_4 : decode cX7_torn 4 = .ok (.ireturn, 1) := by decide +kernel
theorem dX7_count_0 : decode cX7_count 0 = .ok (.aload_n 0, 1) := by decide +kernel
theorem dX7_count_1 : decode cX7_count 1 = .ok (.invokevirtual 170, 3) := by decide +kernel
theorem dX7_count_4 : decode cX7_count 4 = .ok (.iload_n 1, 1) := by decide +kernel
theorem dX7_count_5 : decode cX7_count 5 = .ok (.tableswitch 98 0 4 #[35, 42, 50, 70, 75], 35) := by decide +kernel
theorem dX7_count_40 : decode cX7_count 40 = .ok (.aload_n 0, 1) := by decide +kernel
theorem dX7_count_41 : decode cX7_count 41 = .ok (.bipush 10, 2) := by decide +kernel
theorem dX7_count_43 : decode cX7_count 43 = .ok (.invokevirtual 173, 3) := by decide +kernel
theorem dX7_count_46 : decode cX7_count 46 = .ok (.ireturn, 1) := by decide +kernel
theorem dX7_count_47 : decode cX7_count 47 = .ok (.aload_n 0, 1) := by decide +kernel
theorem dX7_count_48 : decode cX7_count 48 = .ok (.getfield 7, 3) := by decide +kernel
theorem dX7_count_51 : decode cX7_count 51 = .ok (.bipush 22, 2) := by decide +kernel
theorem dX7_count_53 : decode cX7_count 53 = .ok (.iaload, 1) := by decide +kernel
theorem dX7_count_54 : decode cX7_count 54 = .ok (.ireturn, 1) := by decide +kernel
theorem dX7_count_55 : decode cX7_count 55 = .ok (.aload_n 0, 1) := by decide +kernel
theorem dX7_count_56 : decode cX7_count 56 = .ok (.getfield 16, 3) := by decide +kernel
theorem dX7_count_59 : decode cX7_count 59 = .ok (.iconst 0, 1) := by decide +kernel
theorem dX7_count_60 : decode cX7_count 60 = .ok (.baload, 1) := by decide +kernel
theorem dX7_count_61 : decode cX7_count 61 = .ok (.invokestatic 215, 3) := by decide +kernel
theorem dX7_count_64 : decode cX7_count 64 = .ok (.aload_n 0, 1) := by decide +kernel
theorem dX7_count_65 : decode cX7_count 65 = .ok (.getfield 16, 3) := by decide +kernel
theorem dX7_count_68 : decode cX7_count 68 = .ok (.iconst 1, 1) := by decide +kernel
theorem dX7_count_69 : decode cX7_count 69 = .ok (.baload, 1) := by decide +kernel
theorem dX7_count_70 : decode cX7_count 70 = .ok (.invokestatic 215, 3) := by decide +kernel
theorem dX7_count_73 : decode cX7_count 73 = .ok (.iadd, 1) := by decide +kernel
theorem dX7_count_74 : decode cX7_count 74 = .ok (.ireturn, 1) := by decide +kernel
theorem dX7_count_75 : decode cX7_count 75 = .ok (.aload_n 0, 1) := by decide +kernel
theorem dX7_count_76 : decode cX7_count 76 = .ok (.getfield 76, 3) := by decide +kernel
theorem dX7_count_79 : decode cX7_count 79 = .ok (.ireturn, 1) := by decide +kernel
theorem dX7_count_80 : decode cX7_count 80 = .ok (.aload_n 0, 1) := by decide +kernel
theorem dX7_count_81 : decode cX7_count 81 = .ok (.getfield 35, 3) := by decide +kernel
theorem dX7_count_84 : decode cX7_count 84 = .ok (.iconst 0, 1) := by decide +kernel
theorem dX7_count_85 : decode cX7_count 85 = .ok (.iaload, 1) := by decide +kernel
theorem dX7_count_86 : decode cX7_count 86 = .ok (.bipush (-4), 2) := by decide +kernel
theorem dX7_count_88 : decode cX7_count 88 = .ok (.if_icmp .ne 8, 3) := by decide +kernel
theorem dX7_count_91 : decode cX7_count 91 = .ok (.bipush (-4), 2) := by decide +kernel
theorem dX7_count_93 : decode cX7_count 93 = .ok (.goto 9, 3) := by decide +kernel
theorem dX7_count_96 : decode cX7_count 96 = .ok (.aload_n 0, 1) := by decide +kernel
theorem dX7_count_97 : decode cX7_count 97 = .ok (.getfield 38, 3) := by decide +kernel
theorem dX7_count_100 : decode cX7_count 100 = .ok (.iconst 0, 1) := by decide +kernel
theorem dX7_count_101 : decode cX7_count 101 = .ok (.iaload, 1) := by decide +kernel
theorem dX7_count_102 : decode cX7_count 102 = .ok (.ireturn, 1) := by decide +kernel
theorem dX7_count_103 : decode cX7_count 103 = .ok (.iconst (-1), 1) := by decide +kernel
theorem dX7_count_104 : decode cX7_count 104 = .ok (.ireturn, 1) := by decide +kernel
end
section
theorem dJ6_bitCount_0f7a4_0 : decode cJ6_bitCount_0f7a4 0 = .ok (.iload_n 0, 1) := by decide +kernel
theorem dJ6_bitCount_0f7a4_1 : decode cJ6_bitCount_0f7a4 1 = .ok (.iload_n 0, 1) := by decide +kernel
theorem dJ6_bitCount_0f7a4_2 : decode cJ6_bitCount_0f7a4 2 = .ok (.iconst 1, 1) := by decide +kernel
theorem dJ6_bitCount_0f7a4_3 : decode cJ6_bitCount_0f7a4 3 = .ok (.iushr, 1) := by decide +kernel
theorem dJ6_bitCount_0f7a4_4 : decode cJ6_bitCount_0f7a4 4 = .ok (.ldc_w 265, 3) := by decide +kernel
theorem dJ6_bitCount_0f7a4_7 : decode cJ6_bitCount_0f7a4 7 = .ok (.iand, 1) := by decide +kernel
theorem dJ6_bitCount_0f7a4_8 : decode cJ6_bitCount_0f7a4 8 = .ok (.isub, 1) := by decide +kernel
theorem dJ6_bitCount_0f7a4_9 : decode cJ6_bitCount_0f7a4 9 = .ok (.istore_n 0, 1) := by decide +kernel
theorem dJ6_bitCount_0f7a4_10 : decode cJ6_bitCount_0f7a4 10 = .ok (.iload_n 0, 1) := by decide +kernel
theorem dJ6_bitCount_0f7a4_11 : decode cJ6_bitCount_0f7a4 11 = .ok (.ldc_w 266, 3) := by decide +kernel
theorem dJ6_bitCount_0f7a4_14 : decode cJ6_bitCount_0f7a4 14 = .ok (.iand, 1) := by decide +kernel
theorem dJ6_bitCount_0f7a4_15 : decode cJ6_bitCount_0f7a4 15 = .ok (.iload_n 0, 1) := by decide +kernel
theorem dJ6_bitCount_0f7a4_16 : decode cJ6_bitCount_0f7a4 16 = .ok (.iconst 2, 1) := by decide +kernel
theorem dJ6_bitCount_0f7a4_17 : decode cJ6_bitCount_0f7a4 17 = .ok (.iushr, 1) := by decide +kernel
theorem dJ6_bitCount_0f7a4_18 : decode cJ6_bitCount_0f7a4 18 = .ok (.ldc_w 266, 3) := by decide +kernel
theorem dJ6_bitCount_0f7a4_21 : decode cJ6_bitCount_0f7a4 21 = .ok (.iand, 1) := by decide +kernel
theorem dJ6_bitCount_0f7a4_22 : decode cJ6_bitCount_0f7a4 22 = .ok (.iadd, 1) := by decide +kernel
theorem dJ6_bitCount_0f7a4_23 : decode cJ6_bitCount_0f7a4 23 = .ok (.istore_n 0, 1) := by decide +kernel
theorem dJ6_bitCount_0f7a4_24 : decode cJ6_bitCount_0f7a4 24 = .ok (.iload_n 0, 1) := by decide +kernel
theorem dJ6_bitCount_0f7a4_25 : decode cJ6_bitCount_0f7a4 25 = .ok (.iload_n 0, 1) := by decide +kernel
theorem dJ6_bitCount_0f7a4_26 : decode cJ6_bitCount_0f7a4 26 = .ok (.iconst 4, 1) := by decide +kernel
theorem dJ6_bitCount_0f7a4_27 : decode cJ6_bitCount_0f7a4 27 = .ok (.iushr, 1) := by decide +kernel
theorem dJ6_bitCount_0f7a4_28 : decode cJ6_bitCount_0f7a4 28 = .ok (.iadd, 1) := by decide +kernel
theorem dJ6_bitCount_0f7a4_29 : decode cJ6_bitCount_0f7a4 29 = .ok (.ldc_w 267, 3) := by decide +kernel
theorem dJ6_bitCount_0f7a4_32 : decode cJ6_bitCount_0f7a4 32 = .ok (.iand, 1) := by decide +kernel
theorem dJ6_bitCount_0f7a4_33 : decode cJ6_bitCount_0f7a4 33 = .ok (.istore_n 0, 1) := by decide +kernel
theorem dJ6_bitCount_0f7a4_34 : decode cJ6_bitCount_0f7a4 34 = .ok (.iload_n 0, 1) := by decide +kernel
theorem dJ6_bitCount_0f7a4_35 : decode cJ6_bitCount_0f7a4 35 = .ok (.iload_n 0, 1) := by decide +kernel
theorem dJ6_bitCount_0f7a4_36 : decode cJ6_bitCount_0f7a4 36 = .ok (.bipush 8, 2) := by decide +kernel
theorem dJ6_bitCount_0f7a4_38 : decode cJ6_bitCount_0f7a4 38 = .ok (.iushr, 1) := by decide +kernel
theorem dJ6_bitCount_0f7a4_39 : decode cJ6_bitCount_0f7a4 39 = .ok (.iadd, 1) := by decide +kernel
theorem dJ6_bitCount_0f7a4_40 : decode cJ6_bitCount_0f7a4 40 = .ok (.istore_n 0, 1) := by decide +kernel
theorem dJ6_bitCount_0f7a4_41 : decode cJ6_bitCount_0f7a4 41 = .ok (.iload_n 0, 1) := by decide +kernel
theorem dJ6_bitCount_0f7a4_42 : decode cJ6_bitCount_0f7a4 42 = .ok (.iload_n 0, 1) := by decide +kernel
theorem dJ6_bitCount_0f7a4_43 : decode cJ6_bitCount_0f7a4 43 = .ok (.bipush 16, 2) := by decide +kernel
theorem dJ6_bitCount_0f7a4_45 : decode cJ6_bitCount_0f7a4 45 = .ok (.iushr, 1) := by decide +kernel
theorem dJ6_bitCount_0f7a4_46 : decode cJ6_bitCount_0f7a4 46 = .ok (.iadd, 1) := by decide +kernel
theorem dJ6_bitCount_0f7a4_47 : decode cJ6_bitCount_0f7a4 47 = .ok (.istore_n 0, 1) := by decide +kernel
theorem dJ6_bitCount_0f7a4_48 : decode cJ6_bitCount_0f7a4 48 = .ok (.iload_n 0, 1) := by decide +kernel
theorem dJ6_bitCount_0f7a4_49 : decode cJ6_bitCount_0f7a4 49 = .ok (.bipush 63, 2) := by decide +kernel
theorem dJ6_bitCount_0f7a4_51 : decode cJ6_bitCount_0f7a4 51 = .ok (.iand, 1) := by decide +kernel
theorem dJ6_bitCount_0f7a4_52 : decode cJ6_bitCount_0f7a4 52 = .ok (.ireturn, 1) := by decide +kernel
theorem dJ9_abs_067f4_0 : decode cJ9_abs_067f4 0 = .ok (.lload_n 0, 1) := by decide +kernel
theorem dJ9_abs_067f4_1 : decode cJ9_abs_067f4 1 = .ok (.lconst 0, 1) := by decide +kernel
theorem dJ9_abs_067f4_2 : decode cJ9_abs_067f4 2 = .ok (.lcmp, 1) := by decide +kernel
theorem dJ9_abs_067f4_3 : decode cJ9_abs_067f4 3 = .ok (.ifCond .ge 8, 3) := by decide +kernel
theorem dJ9_abs_067f4_6 : decode cJ9_abs_067f4 6 = .ok (.lload_n 0, 1) := by decide +kernel
theorem dJ9_abs_067f4_7 : decode cJ9_abs_067f4 7 = .ok (.lneg, 1) := by decide +kernel
theorem dJ9_abs_067f4_8 : decode cJ9_abs_067f4 8 = .ok (.goto 4, 3) := by decide +kernel
theorem dJ9_abs_067f4_11 : decode cJ9_abs_067f4 11 = .ok (.lload_n 0, 1) := by decide +kernel
theorem dJ9_abs_067f4_12 : decode cJ9_abs_067f4 12 = .ok (.lreturn, 1) := by decide +kernel
theorem dJ9_max_7cf53_0 : decode cJ9_max_7cf53 0 = .ok (.iload_n 0, 1) := by decide +kernel
theorem dJ9_max_7cf53_1 : decode cJ9_max_7cf53 1 = .ok (.iload_n 1, 1) := by decide +kernel
theorem dJ9_max_7cf53_2 : decode cJ9_max_7cf53 2 = .ok (.if_icmp .lt 7, 3) := by decide +kernel
theorem dJ9_max_7cf53_5 : decode cJ9_max_7cf53 5 = .ok (.iload_n 0, 1) := by decide +kernel
theorem dJ9_max_7cf53_6 : decode cJ9_max_7cf53 6 = .ok (.goto 4, 3) := by decide +kernel
theorem dJ9_max_7cf53_9 : decode cJ9_max_7cf53 9 = .ok (.iload_n 1, 1) := by decide +kernel
theorem dJ9_max_7cf53_10 : decode cJ9_max_7cf53 10 = .ok (.ireturn, 1) := by decide +kernel
theorem dJ9_min_7cf53_0 : decode cJ9_min_7cf53 0 = .ok (.iload_n 0, 1) := by decide +kernel
theorem dJ9_min_7cf53_1 : decode cJ9_min_7cf53 1 = .ok (.iload_n 1, 1) := by decide +kernel
theorem dJ9_min_7cf53_2 : decode cJ9_min_7cf53 2 = .ok (.if_icmp .gt 7, 3) := by decide +kernel
theorem dJ9_min_7cf53_5 : decode cJ9_min_7cf53 5 = .ok (.iload_n 0, 1) := by decide +kernel
theorem dJ9_min_7cf53_6 : decode cJ9_min_7cf53 6 = .ok (.goto 4, 3) := by decide +kernel
theorem dJ9_min_7cf53_9 : decode cJ9_min_7cf53 9 = .ok (.iload_n 1, 1) := by decide +kernel
theorem dJ9_min_7cf53_10 : decode cJ9_min_7cf53 10 = .ok (.ireturn, 1) := by decide +kernel
theorem dJ0_length_8abf5_0 : decode cJ0_length_8abf5 0 = .ok (.aload_n 0, 1) := by decide +kernel
theorem dJ0_length_8abf5_1 : decode cJ0_length_8abf5 1 = .ok (.getfield 9, 3) := by decide +kernel
theorem dJ0_length_8abf5_4 : decode cJ0_length_8abf5 4 = .ok (.arraylength, 1) := by decide +kernel
theorem dJ0_length_8abf5_5 : decode cJ0_length_8abf5 5 = .ok (.aload_n 0, 1) := by decide +kernel
theorem dJ0_length_8abf5_6 : decode cJ0_length_8abf5 6 = .ok (.invokevirtual 335, 3) := by decide +kernel
theorem dJ0_length_8abf5_9 : decode cJ0_length_8abf5 9 = .ok (.ishr, 1) := by decide +kernel
theorem dJ0_length_8abf5_10 : decode cJ0_length_8abf5 10 = .ok (.ireturn, 1) := by decide +kernel
theorem dJ0_charAt_5068e_0 : decode cJ0_charAt_5068e 0 = .ok (.aload_n 0, 1) := by decide +kernel
theorem dJ0_charAt_5068e_1 : decode cJ0_charAt_5068e 1 = .ok (.invokevirtual 492, 3) := by decide +kernel
theorem dJ0_charAt_5068e_4 : decode cJ0_charAt_5068e 4 = .ok (.ifCond .eq 12, 3) := by decide +kernel
theorem dJ0_charAt_5068e_7 : decode cJ0_charAt_5068e 7 = .ok (.aload_n 0, 1) := by decide +kernel
theorem dJ0_charAt_5068e_8 : decode cJ0_charAt_5068e 8 = .ok (.getfield 9, 3) := by decide +kernel
theorem dJ0_charAt_5068e_11 : decode cJ0_charAt_5068e 11 = .ok (.iload_n 1, 1) := by decide +kernel
theorem dJ0_charAt_5068e_12 : decode cJ0_charAt_5068e 12 = .ok (.invokestatic 495, 3) := by decide +kernel
theorem dJ0_charAt_5068e_15 : decode cJ0_charAt_5068e 15 = .ok (.ireturn, 1) := by decide +kernel
theorem dJ0_charAt_5068e_16 : decode cJ0_charAt_5068e 16 = .ok (.aload_n 0, 1) := by decide +kernel
theorem dJ0_charAt_5068e_17 : decode cJ0_charAt_5068e 17 = .ok (.getfield 9, 3) := by decide +kernel
theorem dJ0_charAt_5068e_20 : decode cJ0_charAt_5068e 20 = .ok (.iload_n 1, 1) := by decide +kernel
theorem dJ0_charAt_5068e_21 : decode cJ0_charAt_5068e 21 = .ok (.invokestatic 498, 3) := by decide +kernel
theorem dJ0_charAt_5068e_24 : decode cJ0_charAt_5068e 24 = .ok (.ireturn, 1) := by decide +kernel
theorem dJ0_coder_7d493_0 : decode cJ0_coder_7d493 0 = .ok (.getstatic 38, 3) := by decide +kernel
theorem dJ0_coder_7d493_3 : decode cJ0_coder_7d493 3 = .ok (.ifCond .eq 10, 3) := by decide +kernel
theorem dJ0_coder_7d493_6 : decode cJ0_coder_7d493 6 = .ok (.aload_n 0, 1) := by decide +kernel
theorem dJ0_coder_7d493_7 : decode cJ0_coder_7d493 7 = .ok (.getfield 15, 3) := by decide +kernel
theorem dJ0_coder_7d493_10 : decode cJ0_coder_7d493 10 = .ok (.goto 4, 3) := by decide +kernel
theorem dJ0_coder_7d493_13 : decode cJ0_coder_7d493 13 = .ok (.iconst 1, 1) := by decide +kernel
theorem dJ0_coder_7d493_14 : decode cJ0_coder_7d493 14 = .ok (.ireturn, 1) := by decide +kernel
theorem dJ0_isLatin1_aae02_0 : decode cJ0_isLatin1_aae02 0 = .ok (.getstatic 38, 3) := by decide +kernel
theorem dJ0_isLatin1_aae02_3 : decode cJ0_isLatin1_aae02 3 = .ok (.ifCond .eq 14, 3) := by decide +kernel
theorem dJ0_isLatin1_aae02_6 : decode cJ0_isLatin1_aae02 6 = .ok (.aload_n 0, 1) := by decide +kernel
theorem dJ0_isLatin1_aae02_7 : decode cJ0_isLatin1_aae02 7 = .ok (.getfield 15, 3) := by decide +kernel
theorem dJ0_isLatin1_aae02_10 : decode cJ0_isLatin1_aae02 10 = .ok (.ifCond .ne 7, 3) := by decide +kernel
theorem dJ0_isLatin1_aae02_13 : decode cJ0_isLatin1_aae02 13 = .ok (.iconst 1, 1) := by decide +kernel
theorem dJ0_isLatin1_aae02_14 : decode cJ0_isLatin1_aae02 14 = .ok (.goto 4, 3) := by decide +kernel
theorem dJ0_isLatin1_aae02_17 : decode cJ0_isLatin1_aae02 17 = .ok (.iconst 0, 1) := by decide +kernel
theorem dJ0_isLatin1_aae02_18 : decode cJ0_isLatin1_aae02 18 = .ok (.ireturn, 1) := by decide +kernel
theorem dJ0_checkIndex_df160_0 : decode cJ0_checkIndex_df160 0 = .ok (.iload_n 0, 1) := by decide +kernel
theorem dJ0_checkIndex_df160_1 : decode cJ0_checkIndex_df160 1 = .ok (.iload_n 1, 1) := by decide +kernel
theorem dJ0_checkIndex_df160_2 : decode cJ0_checkIndex_df160 2 = .ok (.getstatic 1053, 3) := by decide +kernel
theorem dJ0_checkIndex_df160_5 : decode cJ0_checkIndex_df160 5 = .ok (.invokestatic 1059, 3) := by decide +kernel
theorem dJ0_checkIndex_df160_8 : decode cJ0_checkIndex_df160 8 = .ok (.pop, 1) := by decide +kernel
theorem dJ0_checkIndex_df160_9 : decode cJ0_checkIndex_df160 9 = .ok (.return_, 1) := by decide +kernel
theorem dJ1_charAt_3b067_0 : decode cJ1_charAt_3b067 0 = .ok (.iload_n 1, 1) := by decide +kernel
theorem dJ1_charAt_3b067_1 : decode cJ1_charAt_3b067 1 = .ok (.aload_n 0, 1) := by decide +kernel
theorem dJ1_charAt_3b067_2 : decode cJ1_charAt_3b067 2 = .ok (.arraylength, 1) := by decide +kernel
theorem dJ1_charAt_3b067_3 : decode cJ1_charAt_3b067 3 = .ok (.invokestatic 9, 3) := by decide +kernel
theorem dJ1_charAt_3b067_6 : decode cJ1_charAt_3b067 6 = .ok (.aload_n 0, 1) := by decide +kernel
theorem dJ1_charAt_3b067_7 : decode cJ1_charAt_3b067 7 = .ok (.iload_n 1, 1) := by decide +kernel
theorem dJ1_charAt_3b067_8 : decode cJ1_charAt_3b067 8 = .ok (.baload, 1) := by decide +kernel
theorem dJ1_charAt_3b067_9 : decode cJ1_charAt_3b067 9 = .ok (.sipush 255, 3) := by decide +kernel
theorem dJ1_charAt_3b067_12 : decode cJ1_charAt_3b067 12 = .ok (.iand, 1) := by decide +kernel
theorem dJ1_charAt_3b067_13 : decode cJ1_charAt_3b067 13 = .ok (.i2c, 1) := by decide +kernel
theorem dJ1_charAt_3b067_14 : decode cJ1_charAt_3b067 14 = .ok (.ireturn, 1) := by decide +kernel
theorem dJ2_getChar_3b067_0 : decode cJ2_getChar_3b067 0 = .ok (.getstatic 44, 3) := by decide +kernel
theorem dJ2_getChar_3b067_3 : decode cJ2_getChar_3b067 3 = .ok (.ifCond .ne 25, 3) := by decide +kernel
theorem dJ2_getChar_3b067_6 : decode cJ2_getChar_3b067 6 = .ok (.iload_n 1, 1) := by decide +kernel
theorem dJ2_getChar_3b067_7 : decode cJ2_getChar_3b067 7 = .ok (.ifCond .lt 11, 3) := by decide +kernel
theorem dJ2_getChar_3b067_10 : decode cJ2_getChar_3b067 10 = .ok (.iload_n 1, 1) := by decide +kernel
theorem dJ2_getChar_3b067_11 : decode cJ2_getChar_3b067 11 = .ok (.aload_n 0, 1) := by decide +kernel
theorem dJ2_getChar_3b067_12 : decode cJ2_getChar_3b067 12 = .ok (.invokestatic 48, 3) := by decide +kernel
theorem dJ2_getChar_3b067_15 : decode cJ2_getChar_3b067 15 = .ok (.if_icmp .lt 13, 3) := by decide +kernel
theorem dJ2_getChar_3b067_18 : decode cJ2_getChar_3b067 18 = .ok (.new 52, 3) := by decide +kernel
theorem dJ2_getChar_3b067_21 : decode cJ2_getChar_3b067 21 = .ok (.dup, 1) := by decide +kernel
theorem dJ2_getChar_3b067_22 : decode cJ2_getChar_3b067 22 = .ok (.ldc 54, 2) := by decide +kernel
theorem dJ2_getChar_3b067_24 : decode cJ2_getChar_3b067 24 = .ok (.invokespecial 56, 3) := by decide +kernel
theorem dJ2_getChar_3b067_27 : decode cJ2_getChar_3b067 27 = .ok (.athrow, 1) := by decide +kernel
theorem dJ2_getChar_3b067_28 : decode cJ2_getChar_3b067 28 = .ok (.iload_n 1, 1) := by decide +kernel
theorem dJ2_getChar_3b067_29 : decode cJ2_getChar_3b067 29 = .ok (.iconst 1, 1) := by decide +kernel
theorem dJ2_getChar_3b067_30 : decode cJ2_getChar_3b067 30 = .ok (.ishl, 1) := by decide +kernel
theorem dJ2_getChar_3b067_31 : decode cJ2_getChar_3b067 31 = .ok (.istore_n 1, 1) := by decide +kernel
theorem dJ2_getChar_3b067_32 : decode cJ2_getChar_3b067 32 = .ok (.aload_n 0, 1) := by decide +kernel
theorem dJ2_getChar_3b067_33 : decode cJ2_getChar_3b067 33 = .ok (.iload_n 1, 1) := by decide +kernel
theorem dJ2_getChar_3b067_34 : decode cJ2_getChar_3b067 34 = .ok (.iinc 1 1, 3) := by decide +kernel
theorem dJ2_getChar_3b067_37 : decode cJ2_getChar_3b067 37 = .ok (.baload, 1) := by decide +kernel
theorem dJ2_getChar_3b067_38 : decode cJ2_getChar_3b067 38 = .ok (.sipush 255, 3) := by decide +kernel
theorem dJ2_getChar_3b067_41 : decode cJ2_getChar_3b067 41 = .ok (.iand, 1) := by decide +kernel
theorem dJ2_getChar_3b067_42 : decode cJ2_getChar_3b067 42 = .ok (.getstatic 59, 3) := by decide +kernel
theorem dJ2_getChar_3b067_45 : decode cJ2_getChar_3b067 45 = .ok (.ishl, 1) := by decide +kernel
theorem dJ2_getChar_3b067_46 : decode cJ2_getChar_3b067 46 = .ok (.aload_n 0, 1) := by decide +kernel
theorem dJ2_getChar_3b067_47 : decode cJ2_getChar_3b067 47 = .ok (.iload_n 1, 1) := by decide +kernel
theorem dJ2_getChar_3b067_48 : decode cJ2_getChar_3b067 48 = .ok (.baload, 1) := by decide +kernel
theorem dJ2_getChar_3b067_49 : decode cJ2_getChar_3b067 49 = .ok (.sipush 255, 3) := by decide +kernel
theorem dJ2_getChar_3b067_52 : decode cJ2_getChar_3b067 52 = .ok (.iand, 1) := by decide +kernel
theorem dJ2_getChar_3b067_53 : decode cJ2_getChar_3b067 53 = .ok (.getstatic 63, 3) := by decide +kernel
theorem dJ2_getChar_3b067_56 : decode cJ2_getChar_3b067 56 = .ok (.ishl, 1) := by decide +kernel
theorem dJ2_getChar_3b067_57 : decode cJ2_getChar_3b067 57 = .ok (.ior, 1) := by decide +kernel
theorem dJ2_getChar_3b067_58 : decode cJ2_getChar_3b067 58 = .ok (.i2c, 1) := by decide +kernel
theorem dJ2_getChar_3b067_59 : decode cJ2_getChar_3b067 59 = .ok (.ireturn, 1) := by decide +kernel
theorem dJ2_length_9d52b_0 : decode cJ2_length_9d52b 0 = .ok (.aload_n 0, 1) := by decide +kernel
theorem dJ2_length_9d52b_1 : decode cJ2_length_9d52b 1 = .ok (.arraylength, 1) := by decide +kernel
theorem dJ2_length_9d52b_2 : decode cJ2_length_9d52b 2 = .ok (.iconst 1, 1) := by decide +kernel
theorem dJ2_length_9d52b_3 : decode cJ2_length_9d52b 3 = .ok (.ishr, 1) := by decide +kernel
theorem dJ2_length_9d52b_4 : decode cJ2_length_9d52b 4 = .ok (.ireturn, 1) := by decide +kernel
theorem dJ2_charAt_3b067_0 : decode cJ2_charAt_3b067 0 = .ok (.iload_n 1, 1) := by decide +kernel
theorem dJ2_charAt_3b067_1 : decode cJ2_charAt_3b067 1 = .ok (.aload_n 0, 1) := by decide +kernel
theorem dJ2_charAt_3b067_2 : decode cJ2_charAt_3b067 2 = .ok (.invokestatic 67, 3) := by decide +kernel
theorem dJ2_charAt_3b067_5 : decode cJ2_charAt_3b067 5 = .ok (.aload_n 0, 1) := by decide +kernel
theorem dJ2_charAt_3b067_6 : decode cJ2_charAt_3b067 6 = .ok (.iload_n 1, 1) := by decide +kernel
theorem dJ2_charAt_3b067_7 : decode cJ2_charAt_3b067 7 = .ok (.invokestatic 71, 3) := by decide +kernel
theorem dJ2_charAt_3b067_10 : decode cJ2_charAt_3b067 10 = .ok (.ireturn, 1) := by decide +kernel
theorem dJ2_checkIndex_2214a_0 : decode cJ2_checkIndex_2214a 0 = .ok (.iload_n 0, 1) := by decide +kernel
theorem dJ2_checkIndex_2214a_1 : decode cJ2_checkIndex_2214a 1 = .ok (.aload_n 1, 1) := by decide +kernel
theorem dJ2_checkIndex_2214a_2 : decode cJ2_checkIndex_2214a 2 = .ok (.invokestatic 48, 3) := by decide +kernel
theorem dJ2_checkIndex_2214a_5 : decode cJ2_checkIndex_2214a 5 = .ok (.invokestatic 414, 3) := by decide +kernel
theorem dJ2_checkIndex_2214a_8 : decode cJ2_checkIndex_2214a 8 = .ok (.return_, 1) := by decide +kernel
theorem dJ7_fill_53178_0 : decode cJ7_fill_53178 0 = .ok (.iconst 0, 1) := by decide +kernel
theorem dJ7_fill_53178_1 : decode cJ7_fill_53178 1 = .ok (.istore_n 2, 1) := by decide +kernel
theorem dJ7_fill_53178_2 : decode cJ7_fill_53178 2 = .ok (.aload_n 0, 1) := by decide +kernel
theorem dJ7_fill_53178_3 : decode cJ7_fill_53178 3 = .ok (.arraylength, 1) := by decide +kernel
theorem dJ7_fill_53178_4 : decode cJ7_fill_53178 4 = .ok (.istore_n 3, 1) := by decide +kernel
theorem dJ7_fill_53178_5 : decode cJ7_fill_53178 5 = .ok (.iload_n 2, 1) := by decide +kernel
theorem dJ7_fill_53178_6 : decode cJ7_fill_53178 6 = .ok (.iload_n 3, 1) := by decide +kernel
theorem dJ7_fill_53178_7 : decode cJ7_fill_53178 7 = .ok (.if_icmp .ge 13, 3) := by decide +kernel
theorem dJ7_fill_53178_10 : decode cJ7_fill_53178 10 = .ok (.aload_n 0, 1) := by decide +kernel
theorem dJ7_fill_53178_11 : decode cJ7_fill_53178 11 = .ok (.iload_n 2, 1) := by decide +kernel
theorem dJ7_fill_53178_12 : decode cJ7_fill_53178 12 = .ok (.iload_n 1, 1) := by decide +kernel
theorem dJ7_fill_53178_13 : decode cJ7_fill_53178 13 = .ok (.iastore, 1) := by decide +kernel
theorem dJ7_fill_53178_14 : decode cJ7_fill_53178 14 = .ok (.iinc 2 1, 3) := by decide +kernel
theorem dJ7_fill_53178_17 : decode cJ7_fill_53178 17 = .ok (.goto (-12), 3) := by decide +kernel
theorem dJ7_fill_53178_20 : decode cJ7_fill_53178 20 = .ok (.return_, 1) := by decide +kernel
theorem dJ3_checkIndex_8e157_0 : decode cJ3_checkIndex_8e157 0 = .ok (.iload_n 0, 1) := by decide +kernel
theorem dJ3_checkIndex_8e157_1 : decode cJ3_checkIndex_8e157 1 = .ok (.ifCond .lt 8, 3) := by decide +kernel
theorem dJ3_checkIndex_8e157_4 : decode cJ3_checkIndex_8e157 4 = .ok (.iload_n 0, 1) := by decide +kernel
theorem dJ3_checkIndex_8e157_5 : decode cJ3_checkIndex_8e157 5 = .ok (.iload_n 1, 1) := by decide +kernel
theorem dJ3_checkIndex_8e157_6 : decode cJ3_checkIndex_8e157 6 = .ok (.if_icmp .lt 10, 3) := by decide +kernel
theorem dJ3_checkIndex_8e157_9 : decode cJ3_checkIndex_8e157 9 = .ok (.aload_n 2, 1) := by decide +kernel
theorem dJ3_checkIndex_8e157_10 : decode cJ3_checkIndex_8e157 10 = .ok (.iload_n 0, 1) := by decide +kernel
theorem dJ3_checkIndex_8e157_11 : decode cJ3_checkIndex_8e157 11 = .ok (.iload_n 1, 1) := by decide +kernel
theorem dJ3_checkIndex_8e157_12 : decode cJ3_checkIndex_8e157 12 = .ok (.invokestatic 95, 3) := by decide +kernel
theorem dJ3_checkIndex_8e157_15 : decode cJ3_checkIndex_8e157 15 = .ok (.athrow, 1) := by decide +kernel
theorem dJ3_checkIndex_8e157_16 : decode cJ3_checkIndex_8e157 16 = .ok (.iload_n 0, 1) := by decide +kernel
theorem dJ3_checkIndex_8e157_17 : decode cJ3_checkIndex_8e157 17 = .ok (.ireturn, 1) := by decide +kernel
end
section
theorem dL_law_0 : decode cL_law 0 = .ok (.new 7, 3) := by decide +kernel
theorem dL_law_3 : decode cL_law 3 = .ok (.dup, 1) := by decide +kernel
theorem dL_law_4 : decode cL_law 4 = .ok (.invokespecial 9, 3) := by decide +kernel
theorem dL_law_7 : decode cL_law 7 = .ok (.astore_n 1, 1) := by decide +kernel
theorem dL_law_8 : decode cL_law 8 = .ok (.new 10, 3) := by decide +kernel
theorem dL_law_11 : decode cL_law 11 = .ok (.dup, 1) := by decide +kernel
theorem dL_law_12 : decode cL_law 12 = .ok (.invokespecial 12, 3) := by decide +kernel
theorem dL_law_15 : decode cL_law 15 = .ok (.astore_n 2, 1) := by decide +kernel
theorem dL_law_16 : decode cL_law 16 = .ok (.iconst 0, 1) := by decide +kernel
theorem dL_law_17 : decode cL_law 17 = .ok (.istore_n 3, 1) := by decide +kernel
theorem dL_law_18 : decode cL_law 18 = .ok (.iload_n 3, 1) := by decide +kernel
theorem dL_law_19 : decode cL_law 19 = .ok (.aload_n 0, 1) := by decide +kernel
theorem dL_law_20 : decode cL_law 20 = .ok (.arraylength, 1) := by decide +kernel
theorem dL_law_21 : decode cL_law 21 = .ok (.iconst 5, 1) := by decide +kernel
theorem dL_law_22 : decode cL_law 22 = .ok (.isub, 1) := by decide +kernel
theorem dL_law_23 : decode cL_law 23 = .ok (.if_icmp .gt 1265, 3) := by decide +kernel
theorem dL_law_26 : decode cL_law 26 = .ok (.aload_n 0, 1) := by decide +kernel
theorem dL_law_27 : decode cL_law 27 = .ok (.iload_n 3, 1) := by decide +kernel
theorem dL_law_28 : decode cL_law 28 = .ok (.iaload, 1) := by decide +kernel
theorem dL_law_29 : decode cL_law 29 = .ok (.bipush 63, 2) := by decide +kernel
theorem dL_law_31 : decode cL_law 31 = .ok (.iand, 1) := by decide +kernel
theorem dL_law_32 : decode cL_law 32 = .ok (.tableswitch 1250 0 34 #[156, 179, 202, 215, 228, 251, 284, 327, 360, 409, 442, 465, 498, 531, 554, 587, 620, 653, 686, 709, 742, 786, 830, 874, 917, 940, 963, 986, 1029, 1052, 1075, 1118, 1161, 1214, 1227], 156) := by decide +kernel
theorem dL_law_188 : decode cL_law 188 = .ok (.aload_n 1, 1) := by decide +kernel
theorem dL_law_189 : decode cL_law 189 = .ok (.aload_n 0, 1) := by decide +kernel
theorem dL_law_190 : decode cL_law 190 = .ok (.iload_n 3, 1) := by decide +kernel
theorem dL_law_191 : decode cL_law 191 = .ok (.iconst 1, 1) := by decide +kernel
theorem dL_law_192 : decode cL_law 192 = .ok (.iadd, 1) := by decide +kernel
theorem dL_law_193 : decode cL_law 193 = .ok (.iaload, 1) := by decide +kernel
theorem dL_law_194 : decode cL_law 194 = .ok (.invokevirtual 13, 3) := by decide +kernel
theorem dL_law_197 : decode cL_law 197 = .ok (.aload_n 2, 1) := by decide +kernel
theorem dL_law_198 : decode cL_law 198 = .ok (.aload_n 0, 1) := by decide +kernel
theorem dL_law_199 : decode cL_law 199 = .ok (.iload_n 3, 1) := by decide +kernel
theorem dL_law_200 : decode cL_law 200 = .ok (.iconst 1, 1) := by decide +kernel
theorem dL_law_201 : decode cL_law 201 = .ok (.iadd, 1) := by decide +kernel
theorem dL_law_202 : decode cL_law 202 = .ok (.iaload, 1) := by decide +kernel
theorem dL_law_203 : decode cL_law 203 = .ok (.invokevirtual 17, 3) := by decide +kernel
theorem dL_law_206 : decode cL_law 206 = .ok (.if_icmp .eq 1076, 3) := by decide +kernel
theorem dL_law_209 : decode cL_law 209 = .ok (.iconst 0, 1) := by decide +kernel
theorem dL_law_210 : decode cL_law 210 = .ok (.ireturn, 1) := by decide +kernel
theorem dL_law_211 : decode cL_law 211 = .ok (.aload_n 1, 1) := by decide +kernel
theorem dL_law_212 : decode cL_law 212 = .ok (.aload_n 0, 1) := by decide +kernel
theorem dL_law_213 : decode cL_law 213 = .ok (.iload_n 3, 1) := by decide +kernel
theorem dL_law_214 : decode cL_law 214 = .ok (.iconst 1, 1) := by decide +kernel
theorem dL_law_215 : decode cL_law 215 = .ok (.iadd, 1) := by decide +kernel
theorem dL_law_216 : decode cL_law 216 = .ok (.iaload, 1) := by decide +kernel
theorem dL_law_217 : decode cL_law 217 = .ok (.invokevirtual 18, 3) := by decide +kernel
theorem dL_law_220 : decode cL_law 220 = .ok (.aload_n 2, 1) := by decide +kernel
theorem dL_law_221 : decode cL_law 221 = .ok (.aload_n 0, 1) := by decide +kernel
theorem dL_law_222 : decode cL_law 222 = .ok (.iload_n 3, 1) := by decide +kernel
theorem dL_law_223 : decode cL_law 223 = .ok (.iconst 1, 1) := by decide +kernel
theorem dL_law_224 : decode cL_law 224 = .ok (.iadd, 1) := by decide +kernel
theorem dL_law_225 : decode cL_law 225 = .ok (.iaload, 1) := by decide +kernel
theorem dL_law_226 : decode cL_law 226 = .ok (.invokevirtual 21, 3) := by decide +kernel
theorem dL_law_229 : decode cL_law 229 = .ok (.if_icmp .eq 1053, 3) := by decide +kernel
theorem dL_law_232 : decode cL_law 232 = .ok (.iconst 0, 1) := by decide +kernel
theorem dL_law_233 : decode cL_law 233 = .ok (.ireturn, 1) := by decide +kernel
theorem dL_law_234 : decode cL_law 234 = .ok (.aload_n 1, 1) := by decide +kernel
theorem dL_law_235 : decode cL_law 235 = .ok (.invokevirtual 22, 3) := by decide +kernel
theorem dL_law_238 : decode cL_law 238 = .ok (.aload_n 2, 1) := by decide +kernel
theorem dL_law_239 : decode cL_law 239 = .ok (.invokevirtual 26, 3) := by decide +kernel
theorem dL_law_242 : decode cL_law 242 = .ok (.if_icmp .eq 1040, 3) := by decide +kernel
theorem dL_law_245 : decode cL_law 245 = .ok (.iconst 0, 1) := by decide +kernel
theorem dL_law_246 : decode cL_law 246 = .ok (.ireturn, 1) := by decide +kernel
theorem dL_law_247 : decode cL_law 247 = .ok (.aload_n 1, 1) := by decide +kernel
theorem dL_law_248 : decode cL_law 248 = .ok (.invokevirtual 27, 3) := by decide +kernel
theorem dL_law_251 : decode cL_law 251 = .ok (.aload_n 2, 1) := by decide +kernel
theorem dL_law_252 : decode cL_law 252 = .ok (.invokevirtual 30, 3) := by decide +kernel
theorem dL_law_255 : decode cL_law 255 = .ok (.if_icmp .eq 1027, 3) := by decide +kernel
theorem dL_law_258 : decode cL_law 258 = .ok (.iconst 0, 1) := by decide +kernel
theorem dL_law_259 : decode cL_law 259 = .ok (.ireturn, 1) := by decide +kernel
theorem dL_law_260 : decode cL_law 260 = .ok (.aload_n 1, 1) := by decide +kernel
theorem dL_law_261 : decode cL_law 261 = .ok (.aload_n 0, 1) := by decide +kernel
theorem dL_law_262 : decode cL_law 262 = .ok (.iload_n 3, 1) := by decide +kernel
theorem dL_law_263 : decode cL_law 263 = .ok (.iconst 1, 1) := by decide +kernel
theorem dL_law_264 : decode cL_law 264 = .ok (.iadd, 1) := by decide +kernel
theorem dL_law_265 : decode cL_law 265 = .ok (.iaload, 1) := by decide +kernel
theorem dL_law_266 : decode cL_law 266 = .ok (.invokevirtual 31, 3) := by decide +kernel
theorem dL_law_269 : decode cL_law 269 = .ok (.aload_n 2, 1) := by decide +kernel
theorem dL_law_270 : decode cL_law 270 = .ok (.aload_n 0, 1) := by decide +kernel
theorem dL_law_271 : decode cL_law 271 = .ok (.iload_n 3, 1) := by decide +kernel
theorem dL_law_272 : decode cL_law 272 = .ok (.iconst 1, 1) := by decide +kernel
theorem dL_law_273 : decode cL_law 273 = .ok (.iadd, 1) := by decide +kernel
theorem dL_law_274 : decode cL_law 274 = .ok (.iaload, 1) := by decide +kernel
theorem dL_law_275 : decode cL_law 275 = .ok (.invokevirtual 34, 3) := by decide +kernel
theorem dL_law_278 : decode cL_law 278 = .ok (.if_icmp .eq 1004, 3) := by decide +kernel
theorem dL_law_281 : decode cL_law 281 = .ok (.iconst 0, 1) := by decide +kernel
theorem dL_law_282 : decode cL_law 282 = .ok (.ireturn, 1) := by decide +kernel
theorem dL_law_283 : decode cL_law 283 = .ok (.aload_n 1, 1) := by decide +kernel
theorem dL_law_284 : decode cL_law 284 = .ok (.aload_n 0, 1) := by decide +kernel
theorem dL_law_285 : decode cL_law 285 = .ok (.iload_n 3, 1) := by decide +kernel
theorem dL_law_286 : decode cL_law 286 = .ok (.iconst 1, 1) := by decide +kernel
theorem dL_law_287 : decode cL_law 287 = .ok (.iadd, 1) := by decide +kernel
theorem dL_law_288 : decode cL_law 288 = .ok (.iaload, 1) := by decide +kernel
theorem dL_law_289 : decode cL_law 289 = .ok (.aload_n 0, 1) := by decide +kernel
theorem dL_law_290 : decode cL_law 290 = .ok (.iload_n 3, 1) := by decide +kernel
theorem dL_law_291 : decode cL_law 291 = .ok (.iconst 2, 1) := by decide +kernel
theorem dL_law_292 : decode cL_law 292 = .ok (.iadd, 1) := by decide +kernel
theorem dL_law_293 : decode cL_law 293 = .ok (.iaload, 1) := by decide +kernel
theorem dL_law_294 : decode cL_law 294 = .ok (.invokevirtual 35, 3) := by decide +kernel
theorem dL_law_297 : decode cL_law 297 = .ok (.aload_n 2, 1) := by decide +kernel
theorem dL_law_298 : decode cL_law 298 = .ok (.aload_n 0, 1) := by decide +kernel
theorem dL_law_299 : decode cL_law 299 = .ok (.iload_n 3, 1) := by decide +kernel
theorem dL_law_300 : decode cL_law 300 = .ok (.iconst 1, 1) := by decide +kernel
theorem dL_law_301 : decode cL_law 301 = .ok (.iadd, 1) := by decide +kernel
theorem dL_law_302 : decode cL_law 302 = .ok (.iaload, 1) := by decide +kernel
theorem dL_law_303 : decode cL_law 303 = .ok (.aload_n 0, 1) := by decide +kernel
theorem dL_law_304 : decode cL_law 304 = .ok (.iload_n 3, 1) := by decide +kernel
theorem dL_law_305 : decode cL_law 305 = .ok (.iconst 2, 1) := by decide +kernel
theorem dL_law_306 : decode cL_law 306 = .ok (.iadd, 1) := by decide +kernel
theorem dL_law_307 : decode cL_law 307 = .ok (.iaload, 1) := by decide +kernel
theorem dL_law_308 : decode cL_law 308 = .ok (.invokevirtual 39, 3) := by decide +kernel
theorem dL_law_311 : decode cL_law 311 = .ok (.if_icmp .eq 971, 3) := by decide +kernel
theorem dL_law_314 : decode cL_law 314 = .ok (.iconst 0, 1) := by decide +kernel
theorem dL_law_315 : decode cL_law 315 = .ok (.ireturn, 1) := by decide +kernel
theorem dL_law_316 : decode cL_law 316 = .ok (.aload_n 1, 1) := by decide +kernel
theorem dL_law_317 : decode cL_law 317 = .ok (.aload_n 0, 1) := by decide +kernel
theorem dL_law_318 : decode cL_law 318 = .ok (.iload_n 3, 1) := by decide +kernel
theorem dL_law_319 : decode cL_law 319 = .ok (.iconst 1, 1) := by decide +kernel
theorem dL_law_320 : decode cL_law 320 = .ok (.iadd, 1) := by decide +kernel
theorem dL_law_321 : decode cL_law 321 = .ok (.iaload, 1) := by decide +kernel
theorem dL_law_322 : decode cL_law 322 = .ok (.aload_n 0, 1) := by decide +kernel
theorem dL_law_323 : decode cL_law 323 = .ok (.iload_n 3, 1) := by decide +kernel
theorem dL_law_324 : decode cL_law 324 = .ok (.iconst 2, 1) := by decide +kernel
theorem dL_law_325 : decode cL_law 325 = .ok (.iadd, 1) := by decide +kernel
theorem dL_law_326 : decode cL_law 326 = .ok (.iaload, 1) := by decide +kernel
theorem dL_law_327 : decode cL_law 327 = .ok (.aload_n 0, 1) := by decide +kernel
theorem dL_law_328 : decode cL_law 328 = .ok (.iload_n 3, 1) := by decide +kernel
theorem dL_law_329 : decode cL_law 329 = .ok (.iconst 3, 1) := by decide +kernel
theorem dL_law_330 : decode cL_law 330 = .ok (.iadd, 1) := by decide +kernel
theorem dL_law_331 : decode cL_law 331 = .ok (.iaload, 1) := by decide +kernel
theorem dL_law_332 : decode cL_law 332 = .ok (.invokevirtual 40, 3) := by decide +kernel
theorem dL_law_335 : decode cL_law 335 = .ok (.aload_n 2, 1) := by decide +kernel
theorem dL_law_336 : decode cL_law 336 = .ok (.aload_n 0, 1) := by decide +kernel
theorem dL_law_337 : decode cL_law 337 = .ok (.iload_n 3, 1) := by decide +kernel
theorem dL_law_338 : decode cL_law 338 = .ok (.iconst 1, 1) := by decide +kernel
theorem dL_law_339 : decode cL_law 339 = .ok (.iadd, 1) := by decide +kernel
theorem dL_law_340 : decode cL_law 340 = .ok (.iaload, 1) := by decide +kernel
theorem dL_law_341 : decode cL_law 341 = .ok (.aload_n 0, 1) := by decide +kernel
theorem dL_law_342 : decode cL_law 342 = .ok (.iload_n 3, 1) := by decide +kernel
theorem dL_law_343 : decode cL_law 343 = .ok (.iconst 2, 1) := by decide +kernel
theorem dL_law_344 : decode cL_law 344 = .ok (.iadd, 1) := by decide +kernel
theorem dL_law_345 : decode cL_law 345 = .ok (.iaload, 1) := by decide +kernel
theorem dL_law_346 : decode cL_law 346 = .ok (.aload_n 0, 1) := by decide +kernel
theorem dL_law_347 : decode cL_law 347 = .ok (.iload_n 3, 1) := by decide +kernel
theorem dL_law_348 : decode cL_law 348 = .ok (.iconst 3, 1) := by decide +kernel
theorem dL_law_349 : decode cL_law 349 = .ok (.iadd, 1) := by decide +kernel
theorem dL_law_350 : decode cL_law 350 = .ok (.iaload, 1) := by decide +kernel
theorem dL_law_351 : decode cL_law 351 = .ok (.invokevirtual 44, 3) := by decide +kernel
theorem dL_law_354 : decode cL_law 354 = .ok (.if_icmp .eq 928, 3) := by decide +kernel
theorem dL_law_357 : decode cL_law 357 = .ok (.iconst 0, 1) := by decide +kernel
theorem dL_law_358 : decode cL_law 358 = .ok (.ireturn, 1) := by decide +kernel
theorem dL_law_359 : decode cL_law 359 = .ok (.aload_n 1, 1) := by decide +kernel
theorem dL_law_360 : decode cL_law 360 = .ok (.aload_n 0, 1) := by decide +kernel
theorem dL_law_361 : decode cL_law 361 = .ok (.iload_n 3, 1) := by decide +kernel
theorem dL_law_362 : decode cL_law 362 = .ok (.iconst 1, 1) := by decide +kernel
theorem dL_law_363 : decode cL_law 363 = .ok (.iadd, 1) := by decide +kernel
theorem dL_law_364 : decode cL_law 364 = .ok (.iaload, 1) := by decide +kernel
theorem dL_law_365 : decode cL_law 365 = .ok (.aload_n 0, 1) := by decide +kernel
theorem dL_law_366 : decode cL_law 366 = .ok (.iload_n 3, 1) := by decide +kernel
theorem dL_law_367 : decode cL_law 367 = .ok (.iconst 2, 1) := by decide +kernel
theorem dL_law_368 : decode cL_law 368 = .ok (.iadd, 1) := by decide +kernel
theorem dL_law_369 : decode cL_law 369 = .ok (.iaload, 1) := by decide +kernel
theorem dL_law_370 : decode cL_law 370 = .ok (.invokevirtual 45, 3) := by decide +kernel
theorem dL_law_373 : decode cL_law 373 = .ok (.aload_n 2, 1) := by decide +kernel
theorem dL_law_374 : decode cL_law 374 = .ok (.aload_n 0, 1) := by decide +kernel
theorem dL_law_375 : decode cL_law 375 = .ok (.iload_n 3, 1) := by decide +kernel
theorem dL_law_376 : decode cL_law 376 = .ok (.iconst 1, 1) := by decide +kernel
theorem dL_law_377 : decode cL_law 377 = .ok (.iadd, 1) := by decide +kernel
theorem dL_law_378 : decode cL_law 378 = .ok (.iaload, 1) := by decide +kernel
theorem dL_law_379 : decode cL_law 379 = .ok (.aload_n 0, 1) := by decide +kernel
theorem dL_law_380 : decode cL_law 380 = .ok (.iload_n 3, 1) := by decide +kernel
theorem dL_law_381 : decode cL_law 381 = .ok (.iconst 2, 1) := by decide +kernel
theorem dL_law_382 : decode cL_law 382 = .ok (.iadd, 1) := by decide +kernel
theorem dL_law_383 : decode cL_law 383 = .ok (.iaload, 1) := by decide +kernel
theorem dL_law_384 : decode cL_law 384 = .ok (.invokevirtual 48, 3) := by decide +kernel
theorem dL_law_387 : decode cL_law 387 = .ok (.if_icmp .eq 895, 3) := by decide +kernel
theorem dL_law_390 : decode cL_law 390 = .ok (.iconst 0, 1) := by decide +kernel
theorem dL_law_391 : decode cL_law 391 = .ok (.ireturn, 1) := by decide +kernel
theorem dL_law_392 : decode cL_law 392 = .ok (.aload_n 1, 1) := by decide +kernel
theorem dL_law_393 : decode cL_law 393 = .ok (.aload_n 0, 1) := by decide +kernel
theorem dL_law_394 : decode cL_law 394 = .ok (.iload_n 3, 1) := by decide +kernel
theorem dL_law_395 : decode cL_law 395 = .ok (.iconst 1, 1) := by decide +kernel
theorem dL_law_396 : decode cL_law 396 = .ok (.iadd, 1) := by decide +kernel
theorem dL_law_397 : decode cL_law 397 = .ok (.iaload, 1) := by decide +kernel
theorem dL_law_398 : decode cL_law 398 = .ok (.aload_n 0, 1) := by decide +kernel
theorem dL_law_399 : decode cL_law 399 = .ok (.iload_n 3, 1) := by decide +kernel
theorem dL_law_400 : decode cL_law 400 = .ok (.iconst 2, 1) := by decide +kernel
theorem dL_law_401 : decode cL_law 401 = .ok (.iadd, 1) := by decide +kernel
theorem dL_law_402 : decode cL_law 402 = .ok (.iaload, 1) := by decide +kernel
theorem dL_law_403 : decode cL_law 403 = .ok (.ifCond .eq 7, 3) := by decide +kernel
theorem dL_law_406 : decode cL_law 406 = .ok (.iconst 1, 1) := by decide +kernel
theorem dL_law_407 : decode cL_law 407 = .ok (.goto 4, 3) := by decide +kernel
theorem dL_law_410 : decode cL_law 410 = .ok (.iconst 0, 1) := by decide +kernel
theorem dL_law_411 : decode cL_law 411 = .ok (.invokevirtual 49, 3) := by decide +kernel
theorem dL_law_414 : decode cL_law 414 = .ok (.aload_n 2, 1) := by decide +kernel
theorem dL_law_415 : decode cL_law 415 = .ok (.aload_n 0, 1) := by decide +kernel
theorem dL_law_416 : decode cL_law 416 = .ok (.iload_n 3, 1) := by decide +kernel
theorem dL_law_417 : decode cL_law 417 = .ok (.iconst 1, 1) := by decide +kernel
theorem dL_law_418 : decode cL_law 418 = .ok (.iadd, 1) := by decide +kernel
theorem dL_law_419 : decode cL_law 419 = .ok (.iaload, 1) := by decide +kernel
theorem dL_law_420 : decode cL_law 420 = .ok (.aload_n 0, 1) := by decide +kernel
theorem dL_law_421 : decode cL_law 421 = .ok (.iload_n 3, 1) := by decide +kernel
theorem dL_law_422 : decode cL_law 422 = .ok (.iconst 2, 1) := by decide +kernel
theorem dL_law_423 : decode cL_law 423 = .ok (.iadd, 1) := by decide +kernel
theorem dL_law_424 : decode cL_law 424 = .ok (.iaload, 1) := by decide +kernel
theorem dL_law_425 : decode cL_law 425 = .ok (.ifCond .eq 7, 3) := by decide +kernel
theorem dL_law_428 : decode cL_law 428 = .ok (.iconst 1, 1) := by decide +kernel
theorem dL_law_429 : decode cL_law 429 = .ok (.goto 4, 3) := by decide +kernel
theorem dL_law_432 : decode cL_law 432 = .ok (.iconst 0, 1) := by decide +kernel
theorem dL_law_433 : decode cL_law 433 = .ok (.invokevirtual 53, 3) := by decide +kernel
theorem dL_law_436 : decode cL_law 436 = .ok (.if_icmp .eq 846, 3) := by decide +kernel
theorem dL_law_439 : decode cL_law 439 = .ok (.iconst 0, 1) := by decide +kernel
theorem dL_law_440 : decode cL_law 440 = .ok (.ireturn, 1) := by decide +kernel
theorem dL_law_441 : decode cL_law 441 = .ok (.aload_n 1, 1) := by decide +kernel
theorem dL_law_442 : decode cL_law 442 = .ok (.aload_n 0, 1) := by decide +kernel
theorem dL_law_443 : decode cL_law 443 = .ok (.iload_n 3, 1) := by decide +kernel
theorem dL_law_444 : decode cL_law 444 = .ok (.iconst 1, 1) := by decide +kernel
theorem dL_law_445 : decode cL_law 445 = .ok (.iadd, 1) := by decide +kernel
theorem dL_law_446 : decode cL_law 446 = .ok (.iaload, 1) := by decide +kernel
theorem dL_law_447 : decode cL_law 447 = .ok (.aload_n 0, 1) := by decide +kernel
theorem dL_law_448 : decode cL_law 448 = .ok (.iload_n 3, 1) := by decide +kernel
theorem dL_law_449 : decode cL_law 449 = .ok (.iconst 2, 1) := by decide +kernel
theorem dL_law_450 : decode cL_law 450 = .ok (.iadd, 1) := by decide +kernel
theorem dL_law_451 : decode cL_law 451 = .ok (.iaload, 1) := by decide +kernel
theorem dL_law_452 : decode cL_law 452 = .ok (.invokevirtual 54, 3) := by decide +kernel
theorem dL_law_455 : decode cL_law 455 = .ok (.aload_n 2, 1) := by decide +kernel
theorem dL_law_456 : decode cL_law 456 = .ok (.aload_n 0, 1) := by decide +kernel
theorem dL_law_457 : decode cL_law 457 = .ok (.iload_n 3, 1) := by decide +kernel
theorem dL_law_458 : decode cL_law 458 = .ok (.iconst 1, 1) := by decide +kernel
theorem dL_law_459 : decode cL_law 459 = .ok (.iadd, 1) := by decide +kernel
theorem dL_law_460 : decode cL_law 460 = .ok (.iaload, 1) := by decide +kernel
theorem dL_law_461 : decode cL_law 461 = .ok (.aload_n 0, 1) := by decide +kernel
theorem dL_law_462 : decode cL_law 462 = .ok (.iload_n 3, 1) := by decide +kernel
theorem dL_law_463 : decode cL_law 463 = .ok (.iconst 2, 1) := by decide +kernel
theorem dL_law_464 : decode cL_law 464 = .ok (.iadd, 1) := by decide +kernel
theorem dL_law_465 : decode cL_law 465 = .ok (.iaload, 1) := by decide +kernel
theorem dL_law_466 : decode cL_law 466 = .ok (.invokevirtual 57, 3) := by decide +kernel
theorem dL_law_469 : decode cL_law 469 = .ok (.if_icmp .eq 813, 3) := by decide +kernel
theorem dL_law_472 : decode cL_law 472 = .ok (.iconst 0, 1) := by decide +kernel
theorem dL_law_473 : decode cL_law 473 = .ok (.ireturn, 1) := by decide +kernel
theorem dL_law_474 : decode cL_law 474 = .ok (.aload_n 1, 1) := by decide +kernel
theorem dL_law_475 : decode cL_law 475 = .ok (.aload_n 0, 1) := by decide +kernel
theorem dL_law_476 : decode cL_law 476 = .ok (.iload_n 3, 1) := by decide +kernel
theorem dL_law_477 : decode cL_law 477 = .ok (.iconst 1, 1) := by decide +kernel
theorem dL_law_478 : decode cL_law 478 = .ok (.iadd, 1) := by decide +kernel
theorem dL_law_479 : decode cL_law 479 = .ok (.iaload, 1) := by decide +kernel
theorem dL_law_480 : decode cL_law 480 = .ok (.invokevirtual 58, 3) := by decide +kernel
theorem dL_law_483 : decode cL_law 483 = .ok (.aload_n 2, 1) := by decide +kernel
theorem dL_law_484 : decode cL_law 484 = .ok (.aload_n 0, 1) := by decide +kernel
theorem dL_law_485 : decode cL_law 485 = .ok (.iload_n 3, 1) := by decide +kernel
theorem dL_law_486 : decode cL_law 486 = .ok (.iconst 1, 1) := by decide +kernel
theorem dL_law_487 : decode cL_law 487 = .ok (.iadd, 1) := by decide +kernel
theorem dL_law_488 : decode cL_law 488 = .ok (.iaload, 1) := by decide +kernel
theorem dL_law_489 : decode cL_law 489 = .ok (.invokevirtual 61, 3) := by decide +kernel
theorem dL_law_492 : decode cL_law 492 = .ok (.if_icmp .eq 790, 3) := by decide +kernel
theorem dL_law_495 : decode cL_law 495 = .ok (.iconst 0, 1) := by decide +kernel
theorem dL_law_496 : decode cL_law 496 = .ok (.ireturn, 1) := by decide +kernel
theorem dL_law_497 : decode cL_law 497 = .ok (.aload_n 1, 1) := by decide +kernel
theorem dL_law_498 : decode cL_law 498 = .ok (.aload_n 0, 1) := by decide +kernel
theorem dL_law_499 : decode cL_law 499 = .ok (.iload_n 3, 1) := by decide +kernel
theorem dL_law_500 : decode cL_law 500 = .ok (.iconst 1, 1) := by decide +kernel
theorem dL_law_501 : decode cL_law 501 = .ok (.iadd, 1) := by decide +kernel
theorem dL_law_502 : decode cL_law 502 = .ok (.iaload, 1) := by decide +kernel
theorem dL_law_503 : decode cL_law 503 = .ok (.aload_n 0, 1) := by decide +kernel
theorem dL_law_504 : decode cL_law 504 = .ok (.iload_n 3, 1) := by decide +kernel
theorem dL_law_505 : decode cL_law 505 = .ok (.iconst 2, 1) := by decide +kernel
theorem dL_law_506 : decode cL_law 506 = .ok (.iadd, 1) := by decide +kernel
theorem dL_law_507 : decode cL_law 507 = .ok (.iaload, 1) := by decide +kernel
theorem dL_law_508 : decode cL_law 508 = .ok (.invokevirtual 62, 3) := by decide +kernel
theorem dL_law_511 : decode cL_law 511 = .ok (.aload_n 2, 1) := by decide +kernel
theorem dL_law_512 : decode cL_law 512 = .ok (.aload_n 0, 1) := by decide +kernel
theorem dL_law_513 : decode cL_law 513 = .ok (.iload_n 3, 1) := by decide +kernel
theorem dL_law_514 : decode cL_law 514 = .ok (.iconst 1, 1) := by decide +kernel
theorem dL_law_515 : decode cL_law 515 = .ok (.iadd, 1) := by decide +kernel
theorem dL_law_516 : decode cL_law 516 = .ok (.iaload, 1) := by decide +kernel
theorem dL_law_517 : decode cL_law 517 = .ok (.aload_n 0, 1) := by decide +kernel
theorem dL_law_518 : decode cL_law 518 = .ok (.iload_n 3, 1) := by decide +kernel
theorem dL_law_519 : decode cL_law 519 = .ok (.iconst 2, 1) := by decide +kernel
theorem dL_law_520 : decode cL_law 520 = .ok (.iadd, 1) := by decide +kernel
theorem dL_law_521 : decode cL_law 521 = .ok (.iaload, 1) := by decide +kernel
theorem dL_law_522 : decode cL_law 522 = .ok (.invokevirtual 65, 3) := by decide +kernel
theorem dL_law_525 : decode cL_law 525 = .ok (.if_icmp .eq 757, 3) := by decide +kernel
theorem dL_law_528 : decode cL_law 528 = .ok (.iconst 0, 1) := by decide +kernel
theorem dL_law_529 : decode cL_law 529 = .ok (.ireturn, 1) := by decide +kernel
theorem dL_law_530 : decode cL_law 530 = .ok (.aload_n 1, 1) := by decide +kernel
theorem dL_law_531 : decode cL_law 531 = .ok (.aload_n 0, 1) := by decide +kernel
theorem dL_law_532 : decode cL_law 532 = .ok (.iload_n 3, 1) := by decide +kernel
theorem dL_law_533 : decode cL_law 533 = .ok (.iconst 1, 1) := by decide +kernel
theorem dL_law_534 : decode cL_law 534 = .ok (.iadd, 1) := by decide +kernel
theorem dL_law_535 : decode cL_law 535 = .ok (.iaload, 1) := by decide +kernel
theorem dL_law_536 : decode cL_law 536 = .ok (.aload_n 0, 1) := by decide +kernel
theorem dL_law_537 : decode cL_law 537 = .ok (.iload_n 3, 1) := by decide +kernel
theorem dL_law_538 : decode cL_law 538 = .ok (.iconst 2, 1) := by decide +kernel
theorem dL_law_539 : decode cL_law 539 = .ok (.iadd, 1) := by decide +kernel
theorem dL_law_540 : decode cL_law 540 = .ok (.iaload, 1) := by decide +kernel
theorem dL_law_541 : decode cL_law 541 = .ok (.invokevirtual 66, 3) := by decide +kernel
theorem dL_law_544 : decode cL_law 544 = .ok (.aload_n 2, 1) := by decide +kernel
theorem dL_law_545 : decode cL_law 545 = .ok (.aload_n 0, 1) := by decide +kernel
theorem dL_law_546 : decode cL_law 546 = .ok (.iload_n 3, 1) := by decide +kernel
theorem dL_law_547 : decode cL_law 547 = .ok (.iconst 1, 1) := by decide +kernel
theorem dL_law_548 : decode cL_law 548 = .ok (.iadd, 1) := by decide +kernel
theorem dL_law_549 : decode cL_law 549 = .ok (.iaload, 1) := by decide +kernel
theorem dL_law_550 : decode cL_law 550 = .ok (.aload_n 0, 1) := by decide +kernel
theorem dL_law_551 : decode cL_law 551 = .ok (.iload_n 3, 1) := by decide +kernel
theorem dL_law_552 : decode cL_law 552 = .ok (.iconst 2, 1) := by decide +kernel
theorem dL_law_553 : decode cL_law 553 = .ok (.iadd, 1) := by decide +kernel
theorem dL_law_554 : decode cL_law 554 = .ok (.iaload, 1) := by decide +kernel
theorem dL_law_555 : decode cL_law 555 = .ok (.invokevirtual 69, 3) := by decide +kernel
theorem dL_law_558 : decode cL_law 558 = .ok (.if_icmp .eq 724, 3) := by decide +kernel
theorem dL_law_561 : decode cL_law 561 = .ok (.iconst 0, 1) := by decide +kernel
theorem dL_law_562 : decode cL_law 562 = .ok (.ireturn, 1) := by decide +kernel
theorem dL_law_563 : decode cL_law 563 = .ok (.aload_n 1, 1) := by decide +kernel
theorem dL_law_564 : decode cL_law 564 = .ok (.aload_n 0, 1) := by decide +kernel
theorem dL_law_565 : decode cL_law 565 = .ok (.iload_n 3, 1) := by decide +kernel
theorem dL_law_566 : decode cL_law 566 = .ok (.iconst 1, 1) := by decide +kernel
theorem dL_law_567 : decode cL_law 567 = .ok (.iadd, 1) := by decide +kernel
theorem dL_law_568 : decode cL_law 568 = .ok (.iaload, 1) := by decide +kernel
theorem dL_law_569 : decode cL_law 569 = .ok (.invokevirtual 70, 3) := by decide +kernel
theorem dL_law_572 : decode cL_law 572 = .ok (.aload_n 2, 1) := by decide +kernel
theorem dL_law_573 : decode cL_law 573 = .ok (.aload_n 0, 1) := by decide +kernel
theorem dL_law_574 : decode cL_law 574 = .ok (.iload_n 3, 1) := by decide +kernel
theorem dL_law_575 : decode cL_law 575 = .ok (.iconst 1, 1) := by decide +kernel
theorem dL_law_576 : decode cL_law 576 = .ok (.iadd, 1) := by decide +kernel
theorem dL_law_577 : decode cL_law 577 = .ok (.iaload, 1) := by decide +kernel
theorem dL_law_578 : decode cL_law 578 = .ok (.invokevirtual 73, 3) := by decide +kernel
theorem dL_law_581 : decode cL_law 581 = .ok (.if_icmp .eq 701, 3) := by decide +kernel
theorem dL_law_584 : decode cL_law 584 = .ok (.iconst 0, 1) := by decide +kernel
theorem dL_law_585 : decode cL_law 585 = .ok (.ireturn, 1) := by decide +kernel
theorem dL_law_586 : decode cL_law 586 = .ok (.aload_n 1, 1) := by decide +kernel
theorem dL_law_587 : decode cL_law 587 = .ok (.aload_n 0, 1) := by decide +kernel
theorem dL_law_588 : decode cL_law 588 = .ok (.iload_n 3, 1) := by decide +kernel
theorem dL_law_589 : decode cL_law 589 = .ok (.iconst 1, 1) := by decide +kernel
theorem dL_law_590 : decode cL_law 590 = .ok (.iadd, 1) := by decide +kernel
theorem dL_law_591 : decode cL_law 591 = .ok (.iaload, 1) := by decide +kernel
theorem dL_law_592 : decode cL_law 592 = .ok (.aload_n 0, 1) := by decide +kernel
theorem dL_law_593 : decode cL_law 593 = .ok (.iload_n 3, 1) := by decide +kernel
theorem dL_law_594 : decode cL_law 594 = .ok (.iconst 2, 1) := by decide +kernel
theorem dL_law_595 : decode cL_law 595 = .ok (.iadd, 1) := by decide +kernel
theorem dL_law_596 : decode cL_law 596 = .ok (.iaload, 1) := by decide +kernel
theorem dL_law_597 : decode cL_law 597 = .ok (.invokevirtual 74, 3) := by decide +kernel
theorem dL_law_600 : decode cL_law 600 = .ok (.aload_n 2, 1) := by decide +kernel
theorem dL_law_601 : decode cL_law 601 = .ok (.aload_n 0, 1) := by decide +kernel
theorem dL_law_602 : decode cL_law 602 = .ok (.iload_n 3, 1) := by decide +kernel
theorem dL_law_603 : decode cL_law 603 = .ok (.iconst 1, 1) := by decide +kernel
theorem dL_law_604 : decode cL_law 604 = .ok (.iadd, 1) := by decide +kernel
theorem dL_law_605 : decode cL_law 605 = .ok (.iaload, 1) := by decide +kernel
theorem dL_law_606 : decode cL_law 606 = .ok (.aload_n 0, 1) := by decide +kernel
theorem dL_law_607 : decode cL_law 607 = .ok (.iload_n 3, 1) := by decide +kernel
theorem dL_law_608 : decode cL_law 608 = .ok (.iconst 2, 1) := by decide +kernel
theorem dL_law_609 : decode cL_law 609 = .ok (.iadd, 1) := by decide +kernel
theorem dL_law_610 : decode cL_law 610 = .ok (.iaload, 1) := by decide +kernel
theorem dL_law_611 : decode cL_law 611 = .ok (.invokevirtual 77, 3) := by decide +kernel
theorem dL_law_614 : decode cL_law 614 = .ok (.if_icmp .eq 668, 3) := by decide +kernel
theorem dL_law_617 : decode cL_law 617 = .ok (.iconst 0, 1) := by decide +kernel
theorem dL_law_618 : decode cL_law 618 = .ok (.ireturn, 1) := by decide +kernel
theorem dL_law_619 : decode cL_law 619 = .ok (.aload_n 1, 1) := by decide +kernel
theorem dL_law_620 : decode cL_law 620 = .ok (.aload_n 0, 1) := by decide +kernel
theorem dL_law_621 : decode cL_law 621 = .ok (.iload_n 3, 1) := by decide +kernel
theorem dL_law_622 : decode cL_law 622 = .ok (.iconst 1, 1) := by decide +kernel
theorem dL_law_623 : decode cL_law 623 = .ok (.iadd, 1) := by decide +kernel
theorem dL_law_624 : decode cL_law 624 = .ok (.iaload, 1) := by decide +kernel
theorem dL_law_625 : decode cL_law 625 = .ok (.aload_n 0, 1) := by decide +kernel
theorem dL_law_626 : decode cL_law 626 = .ok (.iload_n 3, 1) := by decide +kernel
theorem dL_law_627 : decode cL_law 627 = .ok (.iconst 2, 1) := by decide +kernel
theorem dL_law_628 : decode cL_law 628 = .ok (.iadd, 1) := by decide +kernel
theorem dL_law_629 : decode cL_law 629 = .ok (.iaload, 1) := by decide +kernel
theorem dL_law_630 : decode cL_law 630 = .ok (.invokevirtual 78, 3) := by decide +kernel
theorem dL_law_633 : decode cL_law 633 = .ok (.aload_n 2, 1) := by decide +kernel
theorem dL_law_634 : decode cL_law 634 = .ok (.aload_n 0, 1) := by decide +kernel
theorem dL_law_635 : decode cL_law 635 = .ok (.iload_n 3, 1) := by decide +kernel
theorem dL_law_636 : decode cL_law 636 = .ok (.iconst 1, 1) := by decide +kernel
theorem dL_law_637 : decode cL_law 637 = .ok (.iadd, 1) := by decide +kernel
theorem dL_law_638 : decode cL_law 638 = .ok (.iaload, 1) := by decide +kernel
theorem dL_law_639 : decode cL_law 639 = .ok (.aload_n 0, 1) := by decide +kernel
theorem dL_law_640 : decode cL_law 640 = .ok (.iload_n 3, 1) := by decide +kernel
theorem dL_law_641 : decode cL_law 641 = .ok (.iconst 2, 1) := by decide +kernel
theorem dL_law_642 : decode cL_law 642 = .ok (.iadd, 1) := by decide +kernel
theorem dL_law_643 : decode cL_law 643 = .ok (.iaload, 1) := by decide +kernel
theorem dL_law_644 : decode cL_law 644 = .ok (.invokevirtual 81, 3) := by decide +kernel
theorem dL_law_647 : decode cL_law 647 = .ok (.if_icmp .eq 635, 3) := by decide +kernel
theorem dL_law_650 : decode cL_law 650 = .ok (.iconst 0, 1) := by decide +kernel
theorem dL_law_651 : decode cL_law 651 = .ok (.ireturn, 1) := by decide +kernel
theorem dL_law_652 : decode cL_law 652 = .ok (.aload_n 1, 1) := by decide +kernel
theorem dL_law_653 : decode cL_law 653 = .ok (.aload_n 0, 1) := by decide +kernel
theorem dL_law_654 : decode cL_law 654 = .ok (.iload_n 3, 1) := by decide +kernel
theorem dL_law_655 : decode cL_law 655 = .ok (.iconst 1, 1) := by decide +kernel
theorem dL_law_656 : decode cL_law 656 = .ok (.iadd, 1) := by decide +kernel
theorem dL_law_657 : decode cL_law 657 = .ok (.iaload, 1) := by decide +kernel
theorem dL_law_658 : decode cL_law 658 = .ok (.aload_n 0, 1) := by decide +kernel
theorem dL_law_659 : decode cL_law 659 = .ok (.iload_n 3, 1) := by decide +kernel
theorem dL_law_660 : decode cL_law 660 = .ok (.iconst 2, 1) := by decide +kernel
theorem dL_law_661 : decode cL_law 661 = .ok (.iadd, 1) := by decide +kernel
theorem dL_law_662 : decode cL_law 662 = .ok (.iaload, 1) := by decide +kernel
theorem dL_law_663 : decode cL_law 663 = .ok (.invokevirtual 82, 3) := by decide +kernel
theorem dL_law_666 : decode cL_law 666 = .ok (.aload_n 2, 1) := by decide +kernel
theorem dL_law_667 : decode cL_law 667 = .ok (.aload_n 0, 1) := by decide +kernel
theorem dL_law_668 : decode cL_law 668 = .ok (.iload_n 3, 1) := by decide +kernel
theorem dL_law_669 : decode cL_law 669 = .ok (.iconst 1, 1) := by decide +kernel
theorem dL_law_670 : decode cL_law 670 = .ok (.iadd, 1) := by decide +kernel
theorem dL_law_671 : decode cL_law 671 = .ok (.iaload, 1) := by decide +kernel
theorem dL_law_672 : decode cL_law 672 = .ok (.aload_n 0, 1) := by decide +kernel
theorem dL_law_673 : decode cL_law 673 = .ok (.iload_n 3, 1) := by decide +kernel
theorem dL_law_674 : decode cL_law 674 = .ok (.iconst 2, 1) := by decide +kernel
theorem dL_law_675 : decode cL_law 675 = .ok (.iadd, 1) := by decide +kernel
theorem dL_law_676 : decode cL_law 676 = .ok (.iaload, 1) := by decide +kernel
theorem dL_law_677 : decode cL_law 677 = .ok (.invokevirtual 85, 3) := by decide +kernel
theorem dL_law_680 : decode cL_law 680 = .ok (.if_icmp .eq 602, 3) := by decide +kernel
theorem dL_law_683 : decode cL_law 683 = .ok (.iconst 0, 1) := by decide +kernel
theorem dL_law_684 : decode cL_law 684 = .ok (.ireturn, 1) := by decide +kernel
theorem dL_law_685 : decode cL_law 685 = .ok (.aload_n 1, 1) := by decide +kernel
theorem dL_law_686 : decode cL_law 686 = .ok (.aload_n 0, 1) := by decide +kernel
theorem dL_law_687 : decode cL_law 687 = .ok (.iload_n 3, 1) := by decide +kernel
theorem dL_law_688 : decode cL_law 688 = .ok (.iconst 1, 1) := by decide +kernel
theorem dL_law_689 : decode cL_law 689 = .ok (.iadd, 1) := by decide +kernel
theorem dL_law_690 : decode cL_law 690 = .ok (.iaload, 1) := by decide +kernel
theorem dL_law_691 : decode cL_law 691 = .ok (.aload_n 0, 1) := by decide +kernel
theorem dL_law_692 : decode cL_law 692 = .ok (.iload_n 3, 1) := by decide +kernel
theorem dL_law_693 : decode cL_law 693 = .ok (.iconst 2, 1) := by decide +kernel
theorem dL_law_694 : decode cL_law 694 = .ok (.iadd, 1) := by decide +kernel
theorem dL_law_695 : decode cL_law 695 = .ok (.iaload, 1) := by decide +kernel
theorem dL_law_696 : decode cL_law 696 = .ok (.invokevirtual 86, 3) := by decide +kernel
theorem dL_law_699 : decode cL_law 699 = .ok (.aload_n 2, 1) := by decide +kernel
theorem dL_law_700 : decode cL_law 700 = .ok (.aload_n 0, 1) := by decide +kernel
theorem dL_law_701 : decode cL_law 701 = .ok (.iload_n 3, 1) := by decide +kernel
theorem dL_law_702 : decode cL_law 702 = .ok (.iconst 1, 1) := by decide +kernel
theorem dL_law_703 : decode cL_law 703 = .ok (.iadd, 1) := by decide +kernel
theorem dL_law_704 : decode cL_law 704 = .ok (.iaload, 1) := by decide +kernel
theorem dL_law_705 : decode cL_law 705 = .ok (.aload_n 0, 1) := by decide +kernel
theorem dL_law_706 : decode cL_law 706 = .ok (.iload_n 3, 1) := by decide +kernel
theorem dL_law_707 : decode cL_law 707 = .ok (.iconst 2, 1) := by decide +kernel
theorem dL_law_708 : decode cL_law 708 = .ok (.iadd, 1) := by decide +kernel
theorem dL_law_709 : decode cL_law 709 = .ok (.iaload, 1) := by decide +kernel
theorem dL_law_710 : decode cL_law 710 = .ok (.invokevirtual 89, 3) := by decide +kernel
theorem dL_law_713 : decode cL_law 713 = .ok (.if_icmp .eq 569, 3) := by decide +kernel
theorem dL_law_716 : decode cL_law 716 = .ok (.iconst 0, 1) := by decide +kernel
theorem dL_law_717 : decode cL_law 717 = .ok (.ireturn, 1) := by decide +kernel
theorem dL_law_718 : decode cL_law 718 = .ok (.aload_n 1, 1) := by decide +kernel
theorem dL_law_719 : decode cL_law 719 = .ok (.aload_n 0, 1) := by decide +kernel
theorem dL_law_720 : decode cL_law 720 = .ok (.iload_n 3, 1) := by decide +kernel
theorem dL_law_721 : decode cL_law 721 = .ok (.iconst 1, 1) := by decide +kernel
theorem dL_law_722 : decode cL_law 722 = .ok (.iadd, 1) := by decide +kernel
theorem dL_law_723 : decode cL_law 723 = .ok (.iaload, 1) := by decide +kernel
theorem dL_law_724 : decode cL_law 724 = .ok (.invokevirtual 90, 3) := by decide +kernel
theorem dL_law_727 : decode cL_law 727 = .ok (.aload_n 2, 1) := by decide +kernel
theorem dL_law_728 : decode cL_law 728 = .ok (.aload_n 0, 1) := by decide +kernel
theorem dL_law_729 : decode cL_law 729 = .ok (.iload_n 3, 1) := by decide +kernel
theorem dL_law_730 : decode cL_law 730 = .ok (.iconst 1, 1) := by decide +kernel
theorem dL_law_731 : decode cL_law 731 = .ok (.iadd, 1) := by decide +kernel
theorem dL_law_732 : decode cL_law 732 = .ok (.iaload, 1) := by decide +kernel
theorem dL_law_733 : decode cL_law 733 = .ok (.invokevirtual 93, 3) := by decide +kernel
theorem dL_law_736 : decode cL_law 736 = .ok (.if_icmp .eq 546, 3) := by decide +kernel
theorem dL_law_739 : decode cL_law 739 = .ok (.iconst 0, 1) := by decide +kernel
theorem dL_law_740 : decode cL_law 740 = .ok (.ireturn, 1) := by decide +kernel
theorem dL_law_741 : decode cL_law 741 = .ok (.aload_n 1, 1) := by decide +kernel
theorem dL_law_742 : decode cL_law 742 = .ok (.aload_n 0, 1) := by decide +kernel
theorem dL_law_743 : decode cL_law 743 = .ok (.iload_n 3, 1) := by decide +kernel
theorem dL_law_744 : decode cL_law 744 = .ok (.iconst 1, 1) := by decide +kernel
theorem dL_law_745 : decode cL_law 745 = .ok (.iadd, 1) := by decide +kernel
theorem dL_law_746 : decode cL_law 746 = .ok (.iaload, 1) := by decide +kernel
theorem dL_law_747 : decode cL_law 747 = .ok (.aload_n 0, 1) := by decide +kernel
theorem dL_law_748 : decode cL_law 748 = .ok (.iload_n 3, 1) := by decide +kernel
theorem dL_law_749 : decode cL_law 749 = .ok (.iconst 2, 1) := by decide +kernel
theorem dL_law_750 : decode cL_law 750 = .ok (.iadd, 1) := by decide +kernel
theorem dL_law_751 : decode cL_law 751 = .ok (.iaload, 1) := by decide +kernel
theorem dL_law_752 : decode cL_law 752 = .ok (.invokevirtual 94, 3) := by decide +kernel
theorem dL_law_755 : decode cL_law 755 = .ok (.aload_n 2, 1) := by decide +kernel
theorem dL_law_756 : decode cL_law 756 = .ok (.aload_n 0, 1) := by decide +kernel
theorem dL_law_757 : decode cL_law 757 = .ok (.iload_n 3, 1) := by decide +kernel
theorem dL_law_758 : decode cL_law 758 = .ok (.iconst 1, 1) := by decide +kernel
theorem dL_law_759 : decode cL_law 759 = .ok (.iadd, 1) := by decide +kernel
theorem dL_law_760 : decode cL_law 760 = .ok (.iaload, 1) := by decide +kernel
theorem dL_law_761 : decode cL_law 761 = .ok (.aload_n 0, 1) := by decide +kernel
theorem dL_law_762 : decode cL_law 762 = .ok (.iload_n 3, 1) := by decide +kernel
theorem dL_law_763 : decode cL_law 763 = .ok (.iconst 2, 1) := by decide +kernel
theorem dL_law_764 : decode cL_law 764 = .ok (.iadd, 1) := by decide +kernel
theorem dL_law_765 : decode cL_law 765 = .ok (.iaload, 1) := by decide +kernel
theorem dL_law_766 : decode cL_law 766 = .ok (.invokevirtual 97, 3) := by decide +kernel
theorem dL_law_769 : decode cL_law 769 = .ok (.if_icmp .eq 513, 3) := by decide +kernel
theorem dL_law_772 : decode cL_law 772 = .ok (.iconst 0, 1) := by decide +kernel
theorem dL_law_773 : decode cL_law 773 = .ok (.ireturn, 1) := by decide +kernel
theorem dL_law_774 : decode cL_law 774 = .ok (.aload_n 1, 1) := by decide +kernel
theorem dL_law_775 : decode cL_law 775 = .ok (.aload_n 0, 1) := by decide +kernel
theorem dL_law_776 : decode cL_law 776 = .ok (.iload_n 3, 1) := by decide +kernel
theorem dL_law_777 : decode cL_law 777 = .ok (.iconst 1, 1) := by decide +kernel
theorem dL_law_778 : decode cL_law 778 = .ok (.iadd, 1) := by decide +kernel
theorem dL_law_779 : decode cL_law 779 = .ok (.iaload, 1) := by decide +kernel
theorem dL_law_780 : decode cL_law 780 = .ok (.aload_n 0, 1) := by decide +kernel
theorem dL_law_781 : decode cL_law 781 = .ok (.iload_n 3, 1) := by decide +kernel
theorem dL_law_782 : decode cL_law 782 = .ok (.iconst 2, 1) := by decide +kernel
theorem dL_law_783 : decode cL_law 783 = .ok (.iadd, 1) := by decide +kernel
theorem dL_law_784 : decode cL_law 784 = .ok (.iaload, 1) := by decide +kernel
theorem dL_law_785 : decode cL_law 785 = .ok (.aload_n 0, 1) := by decide +kernel
theorem dL_law_786 : decode cL_law 786 = .ok (.iload_n 3, 1) := by decide +kernel
theorem dL_law_787 : decode cL_law 787 = .ok (.iconst 3, 1) := by decide +kernel
theorem dL_law_788 : decode cL_law 788 = .ok (.iadd, 1) := by decide +kernel
theorem dL_law_789 : decode cL_law 789 = .ok (.iaload, 1) := by decide +kernel
theorem dL_law_790 : decode cL_law 790 = .ok (.invokevirtual 98, 3) := by decide +kernel
theorem dL_law_793 : decode cL_law 793 = .ok (.aload_n 2, 1) := by decide +kernel
theorem dL_law_794 : decode cL_law 794 = .ok (.aload_n 0, 1) := by decide +kernel
theorem dL_law_795 : decode cL_law 795 = .ok (.iload_n 3, 1) := by decide +kernel
theorem dL_law_796 : decode cL_law 796 = .ok (.iconst 1, 1) := by decide +kernel
theorem dL_law_797 : decode cL_law 797 = .ok (.iadd, 1) := by decide +kernel
theorem dL_law_798 : decode cL_law 798 = .ok (.iaload, 1) := by decide +kernel
theorem dL_law_799 : decode cL_law 799 = .ok (.aload_n 0, 1) := by decide +kernel
theorem dL_law_800 : decode cL_law 800 = .ok (.iload_n 3, 1) := by decide +kernel
theorem dL_law_801 : decode cL_law 801 = .ok (.iconst 2, 1) := by decide +kernel
theorem dL_law_802 : decode cL_law 802 = .ok (.iadd, 1) := by decide +kernel
theorem dL_law_803 : decode cL_law 803 = .ok (.iaload, 1) := by decide +kernel
theorem dL_law_804 : decode cL_law 804 = .ok (.aload_n 0, 1) := by decide +kernel
theorem dL_law_805 : decode cL_law 805 = .ok (.iload_n 3, 1) := by decide +kernel
theorem dL_law_806 : decode cL_law 806 = .ok (.iconst 3, 1) := by decide +kernel
theorem dL_law_807 : decode cL_law 807 = .ok (.iadd, 1) := by decide +kernel
theorem dL_law_808 : decode cL_law 808 = .ok (.iaload, 1) := by decide +kernel
theorem dL_law_809 : decode cL_law 809 = .ok (.invokevirtual 102, 3) := by decide +kernel
theorem dL_law_812 : decode cL_law 812 = .ok (.lcmp, 1) := by decide +kernel
theorem dL_law_813 : decode cL_law 813 = .ok (.ifCond .eq 469, 3) := by decide +kernel
theorem dL_law_816 : decode cL_law 816 = .ok (.iconst 0, 1) := by decide +kernel
theorem dL_law_817 : decode cL_law 817 = .ok (.ireturn, 1) := by decide +kernel
theorem dL_law_818 : decode cL_law 818 = .ok (.aload_n 1, 1) := by decide +kernel
theorem dL_law_819 : decode cL_law 819 = .ok (.aload_n 0, 1) := by decide +kernel
theorem dL_law_820 : decode cL_law 820 = .ok (.iload_n 3, 1) := by decide +kernel
theorem dL_law_821 : decode cL_law 821 = .ok (.iconst 1, 1) := by decide +kernel
theorem dL_law_822 : decode cL_law 822 = .ok (.iadd, 1) := by decide +kernel
theorem dL_law_823 : decode cL_law 823 = .ok (.iaload, 1) := by decide +kernel
theorem dL_law_824 : decode cL_law 824 = .ok (.aload_n 0, 1) := by decide +kernel
theorem dL_law_825 : decode cL_law 825 = .ok (.iload_n 3, 1) := by decide +kernel
theorem dL_law_826 : decode cL_law 826 = .ok (.iconst 2, 1) := by decide +kernel
theorem dL_law_827 : decode cL_law 827 = .ok (.iadd, 1) := by decide +kernel
theorem dL_law_828 : decode cL_law 828 = .ok (.iaload, 1) := by decide +kernel
theorem dL_law_829 : decode cL_law 829 = .ok (.aload_n 0, 1) := by decide +kernel
theorem dL_law_830 : decode cL_law 830 = .ok (.iload_n 3, 1) := by decide +kernel
theorem dL_law_831 : decode cL_law 831 = .ok (.iconst 3, 1) := by decide +kernel
theorem dL_law_832 : decode cL_law 832 = .ok (.iadd, 1) := by decide +kernel
theorem dL_law_833 : decode cL_law 833 = .ok (.iaload, 1) := by decide +kernel
theorem dL_law_834 : decode cL_law 834 = .ok (.invokevirtual 103, 3) := by decide +kernel
theorem dL_law_837 : decode cL_law 837 = .ok (.aload_n 2, 1) := by decide +kernel
theorem dL_law_838 : decode cL_law 838 = .ok (.aload_n 0, 1) := by decide +kernel
theorem dL_law_839 : decode cL_law 839 = .ok (.iload_n 3, 1) := by decide +kernel
theorem dL_law_840 : decode cL_law 840 = .ok (.iconst 1, 1) := by decide +kernel
theorem dL_law_841 : decode cL_law 841 = .ok (.iadd, 1) := by decide +kernel
theorem dL_law_842 : decode cL_law 842 = .ok (.iaload, 1) := by decide +kernel
theorem dL_law_843 : decode cL_law 843 = .ok (.aload_n 0, 1) := by decide +kernel
theorem dL_law_844 : decode cL_law 844 = .ok (.iload_n 3, 1) := by decide +kernel
theorem dL_law_845 : decode cL_law 845 = .ok (.iconst 2, 1) := by decide +kernel
theorem dL_law_846 : decode cL_law 846 = .ok (.iadd, 1) := by decide +kernel
theorem dL_law_847 : decode cL_law 847 = .ok (.iaload, 1) := by decide +kernel
theorem dL_law_848 : decode cL_law 848 = .ok (.aload_n 0, 1) := by decide +kernel
theorem dL_law_849 : decode cL_law 849 = .ok (.iload_n 3, 1) := by decide +kernel
theorem dL_law_850 : decode cL_law 850 = .ok (.iconst 3, 1) := by decide +kernel
theorem dL_law_851 : decode cL_law 851 = .ok (.iadd, 1) := by decide +kernel
theorem dL_law_852 : decode cL_law 852 = .ok (.iaload, 1) := by decide +kernel
theorem dL_law_853 : decode cL_law 853 = .ok (.invokevirtual 106, 3) := by decide +kernel
theorem dL_law_856 : decode cL_law 856 = .ok (.lcmp, 1) := by decide +kernel
theorem dL_law_857 : decode cL_law 857 = .ok (.ifCond .eq 425, 3) := by decide +kernel
theorem dL_law_860 : decode cL_law 860 = .ok (.iconst 0, 1) := by decide +kernel
theorem dL_law_861 : decode cL_law 861 = .ok (.ireturn, 1) := by decide +kernel
theorem dL_law_862 : decode cL_law 862 = .ok (.aload_n 1, 1) := by decide +kernel
theorem dL_law_863 : decode cL_law 863 = .ok (.aload_n 0, 1) := by decide +kernel
theorem dL_law_864 : decode cL_law 864 = .ok (.iload_n 3, 1) := by decide +kernel
theorem dL_law_865 : decode cL_law 865 = .ok (.iconst 1, 1) := by decide +kernel
theorem dL_law_866 : decode cL_law 866 = .ok (.iadd, 1) := by decide +kernel
theorem dL_law_867 : decode cL_law 867 = .ok (.iaload, 1) := by decide +kernel
theorem dL_law_868 : decode cL_law 868 = .ok (.aload_n 0, 1) := by decide +kernel
theorem dL_law_869 : decode cL_law 869 = .ok (.iload_n 3, 1) := by decide +kernel
theorem dL_law_870 : decode cL_law 870 = .ok (.iconst 2, 1) := by decide +kernel
theorem dL_law_871 : decode cL_law 871 = .ok (.iadd, 1) := by decide +kernel
theorem dL_law_872 : decode cL_law 872 = .ok (.iaload, 1) := by decide +kernel
theorem dL_law_873 : decode cL_law 873 = .ok (.aload_n 0, 1) := by decide +kernel
theorem dL_law_874 : decode cL_law 874 = .ok (.iload_n 3, 1) := by decide +kernel
theorem dL_law_875 : decode cL_law 875 = .ok (.iconst 3, 1) := by decide +kernel
theorem dL_law_876 : decode cL_law 876 = .ok (.iadd, 1) := by decide +kernel
theorem dL_law_877 : decode cL_law 877 = .ok (.iaload, 1) := by decide +kernel
theorem dL_law_878 : decode cL_law 878 = .ok (.invokevirtual 107, 3) := by decide +kernel
theorem dL_law_881 : decode cL_law 881 = .ok (.aload_n 2, 1) := by decide +kernel
theorem dL_law_882 : decode cL_law 882 = .ok (.aload_n 0, 1) := by decide +kernel
theorem dL_law_883 : decode cL_law 883 = .ok (.iload_n 3, 1) := by decide +kernel
theorem dL_law_884 : decode cL_law 884 = .ok (.iconst 1, 1) := by decide +kernel
theorem dL_law_885 : decode cL_law 885 = .ok (.iadd, 1) := by decide +kernel
theorem dL_law_886 : decode cL_law 886 = .ok (.iaload, 1) := by decide +kernel
theorem dL_law_887 : decode cL_law 887 = .ok (.aload_n 0, 1) := by decide +kernel
theorem dL_law_888 : decode cL_law 888 = .ok (.iload_n 3, 1) := by decide +kernel
theorem dL_law_889 : decode cL_law 889 = .ok (.iconst 2, 1) := by decide +kernel
theorem dL_law_890 : decode cL_law 890 = .ok (.iadd, 1) := by decide +kernel
theorem dL_law_891 : decode cL_law 891 = .ok (.iaload, 1) := by decide +kernel
theorem dL_law_892 : decode cL_law 892 = .ok (.aload_n 0, 1) := by decide +kernel
theorem dL_law_893 : decode cL_law 893 = .ok (.iload_n 3, 1) := by decide +kernel
theorem dL_law_894 : decode cL_law 894 = .ok (.iconst 3, 1) := by decide +kernel
theorem dL_law_895 : decode cL_law 895 = .ok (.iadd, 1) := by decide +kernel
theorem dL_law_896 : decode cL_law 896 = .ok (.iaload, 1) := by decide +kernel
theorem dL_law_897 : decode cL_law 897 = .ok (.invokevirtual 110, 3) := by decide +kernel
theorem dL_law_900 : decode cL_law 900 = .ok (.lcmp, 1) := by decide +kernel
theorem dL_law_901 : decode cL_law 901 = .ok (.ifCond .eq 381, 3) := by decide +kernel
theorem dL_law_904 : decode cL_law 904 = .ok (.iconst 0, 1) := by decide +kernel
theorem dL_law_905 : decode cL_law 905 = .ok (.ireturn, 1) := by decide +kernel
theorem dL_law_906 : decode cL_law 906 = .ok (.aload_n 1, 1) := by decide +kernel
theorem dL_law_907 : decode cL_law 907 = .ok (.aload_n 0, 1) := by decide +kernel
theorem dL_law_908 : decode cL_law 908 = .ok (.iload_n 3, 1) := by decide +kernel
theorem dL_law_909 : decode cL_law 909 = .ok (.iconst 1, 1) := by decide +kernel
theorem dL_law_910 : decode cL_law 910 = .ok (.iadd, 1) := by decide +kernel
theorem dL_law_911 : decode cL_law 911 = .ok (.iaload, 1) := by decide +kernel
theorem dL_law_912 : decode cL_law 912 = .ok (.aload_n 0, 1) := by decide +kernel
theorem dL_law_913 : decode cL_law 913 = .ok (.iload_n 3, 1) := by decide +kernel
theorem dL_law_914 : decode cL_law 914 = .ok (.iconst 2, 1) := by decide +kernel
theorem dL_law_915 : decode cL_law 915 = .ok (.iadd, 1) := by decide +kernel
theorem dL_law_916 : decode cL_law 916 = .ok (.iaload, 1) := by decide +kernel
theorem dL_law_917 : decode cL_law 917 = .ok (.aload_n 0, 1) := by decide +kernel
theorem dL_law_918 : decode cL_law 918 = .ok (.iload_n 3, 1) := by decide +kernel
theorem dL_law_919 : decode cL_law 919 = .ok (.iconst 3, 1) := by decide +kernel
theorem dL_law_920 : decode cL_law 920 = .ok (.iadd, 1) := by decide +kernel
theorem dL_law_921 : decode cL_law 921 = .ok (.iaload, 1) := by decide +kernel
theorem dL_law_922 : decode cL_law 922 = .ok (.invokevirtual 111, 3) := by decide +kernel
theorem dL_law_925 : decode cL_law 925 = .ok (.aload_n 2, 1) := by decide +kernel
theorem dL_law_926 : decode cL_law 926 = .ok (.aload_n 0, 1) := by decide +kernel
theorem dL_law_927 : decode cL_law 927 = .ok (.iload_n 3, 1) := by decide +kernel
theorem dL_law_928 : decode cL_law 928 = .ok (.iconst 1, 1) := by decide +kernel
theorem dL_law_929 : decode cL_law 929 = .ok (.iadd, 1) := by decide +kernel
theorem dL_law_930 : decode cL_law 930 = .ok (.iaload, 1) := by decide +kernel
theorem dL_law_931 : decode cL_law 931 = .ok (.aload_n 0, 1) := by decide +kernel
theorem dL_law_932 : decode cL_law 932 = .ok (.iload_n 3, 1) := by decide +kernel
theorem dL_law_933 : decode cL_law 933 = .ok (.iconst 2, 1) := by decide +kernel
theorem dL_law_934 : decode cL_law 934 = .ok (.iadd, 1) := by decide +kernel
theorem dL_law_935 : decode cL_law 935 = .ok (.iaload, 1) := by decide +kernel
theorem dL_law_936 : decode cL_law 936 = .ok (.aload_n 0, 1) := by decide +kernel
theorem dL_law_937 : decode cL_law 937 = .ok (.iload_n 3, 1) := by decide +kernel
theorem dL_law_938 : decode cL_law 938 = .ok (.iconst 3, 1) := by decide +kernel
theorem dL_law_939 : decode cL_law 939 = .ok (.iadd, 1) := by decide +kernel
theorem dL_law_940 : decode cL_law 940 = .ok (.iaload, 1) := by decide +kernel
theorem dL_law_941 : decode cL_law 941 = .ok (.invokevirtual 114, 3) := by decide +kernel
theorem dL_law_944 : decode cL_law 944 = .ok (.if_icmp .eq 338, 3) := by decide +kernel
theorem dL_law_947 : decode cL_law 947 = .ok (.iconst 0, 1) := by decide +kernel
theorem dL_law_948 : decode cL_law 948 = .ok (.ireturn, 1) := by decide +kernel
theorem dL_law_949 : decode cL_law 949 = .ok (.aload_n 1, 1) := by decide +kernel
theorem dL_law_950 : decode cL_law 950 = .ok (.aload_n 0, 1) := by decide +kernel
theorem dL_law_951 : decode cL_law 951 = .ok (.iload_n 3, 1) := by decide +kernel
theorem dL_law_952 : decode cL_law 952 = .ok (.iconst 1, 1) := by decide +kernel
theorem dL_law_953 : decode cL_law 953 = .ok (.iadd, 1) := by decide +kernel
theorem dL_law_954 : decode cL_law 954 = .ok (.iaload, 1) := by decide +kernel
theorem dL_law_955 : decode cL_law 955 = .ok (.invokevirtual 115, 3) := by decide +kernel
theorem dL_law_958 : decode cL_law 958 = .ok (.aload_n 2, 1) := by decide +kernel
theorem dL_law_959 : decode cL_law 959 = .ok (.aload_n 0, 1) := by decide +kernel
theorem dL_law_960 : decode cL_law 960 = .ok (.iload_n 3, 1) := by decide +kernel
theorem dL_law_961 : decode cL_law 961 = .ok (.iconst 1, 1) := by decide +kernel
theorem dL_law_962 : decode cL_law 962 = .ok (.iadd, 1) := by decide +kernel
theorem dL_law_963 : decode cL_law 963 = .ok (.iaload, 1) := by decide +kernel
theorem dL_law_964 : decode cL_law 964 = .ok (.invokevirtual 118, 3) := by decide +kernel
theorem dL_law_967 : decode cL_law 967 = .ok (.if_icmp .eq 315, 3) := by decide +kernel
theorem dL_law_970 : decode cL_law 970 = .ok (.iconst 0, 1) := by decide +kernel
theorem dL_law_971 : decode cL_law 971 = .ok (.ireturn, 1) := by decide +kernel
theorem dL_law_972 : decode cL_law 972 = .ok (.aload_n 1, 1) := by decide +kernel
theorem dL_law_973 : decode cL_law 973 = .ok (.aload_n 0, 1) := by decide +kernel
theorem dL_law_974 : decode cL_law 974 = .ok (.iload_n 3, 1) := by decide +kernel
theorem dL_law_975 : decode cL_law 975 = .ok (.iconst 1, 1) := by decide +kernel
theorem dL_law_976 : decode cL_law 976 = .ok (.iadd, 1) := by decide +kernel
theorem dL_law_977 : decode cL_law 977 = .ok (.iaload, 1) := by decide +kernel
theorem dL_law_978 : decode cL_law 978 = .ok (.invokevirtual 119, 3) := by decide +kernel
theorem dL_law_981 : decode cL_law 981 = .ok (.aload_n 2, 1) := by decide +kernel
theorem dL_law_982 : decode cL_law 982 = .ok (.aload_n 0, 1) := by decide +kernel
theorem dL_law_983 : decode cL_law 983 = .ok (.iload_n 3, 1) := by decide +kernel
theorem dL_law_984 : decode cL_law 984 = .ok (.iconst 1, 1) := by decide +kernel
theorem dL_law_985 : decode cL_law 985 = .ok (.iadd, 1) := by decide +kernel
theorem dL_law_986 : decode cL_law 986 = .ok (.iaload, 1) := by decide +kernel
theorem dL_law_987 : decode cL_law 987 = .ok (.invokevirtual 122, 3) := by decide +kernel
theorem dL_law_990 : decode cL_law 990 = .ok (.if_icmp .eq 292, 3) := by decide +kernel
theorem dL_law_993 : decode cL_law 993 = .ok (.iconst 0, 1) := by decide +kernel
theorem dL_law_994 : decode cL_law 994 = .ok (.ireturn, 1) := by decide +kernel
theorem dL_law_995 : decode cL_law 995 = .ok (.aload_n 1, 1) := by decide +kernel
theorem dL_law_996 : decode cL_law 996 = .ok (.aload_n 0, 1) := by decide +kernel
theorem dL_law_997 : decode cL_law 997 = .ok (.iload_n 3, 1) := by decide +kernel
theorem dL_law_998 : decode cL_law 998 = .ok (.iconst 1, 1) := by decide +kernel
theorem dL_law_999 : decode cL_law 999 = .ok (.iadd, 1) := by decide +kernel
theorem dL_law_1000 : decode cL_law 1000 = .ok (.iaload, 1) := by decide +kernel
theorem dL_law_1001 : decode cL_law 1001 = .ok (.invokevirtual 123, 3) := by decide +kernel
theorem dL_law_1004 : decode cL_law 1004 = .ok (.aload_n 2, 1) := by decide +kernel
theorem dL_law_1005 : decode cL_law 1005 = .ok (.aload_n 0, 1) := by decide +kernel
theorem dL_law_1006 : decode cL_law 1006 = .ok (.iload_n 3, 1) := by decide +kernel
theorem dL_law_1007 : decode cL_law 1007 = .ok (.iconst 1, 1) := by decide +kernel
theorem dL_law_1008 : decode cL_law 1008 = .ok (.iadd, 1) := by decide +kernel
theorem dL_law_1009 : decode cL_law 1009 = .ok (.iaload, 1) := by decide +kernel
theorem dL_law_1010 : decode cL_law 1010 = .ok (.invokevirtual 126, 3) := by decide +kernel
theorem dL_law_1013 : decode cL_law 1013 = .ok (.if_icmp .eq 269, 3) := by decide +kernel
theorem dL_law_1016 : decode cL_law 1016 = .ok (.iconst 0, 1) := by decide +kernel
theorem dL_law_1017 : decode cL_law 1017 = .ok (.ireturn, 1) := by decide +kernel
theorem dL_law_1018 : decode cL_law 1018 = .ok (.aload_n 1, 1) := by decide +kernel
theorem dL_law_1019 : decode cL_law 1019 = .ok (.aload_n 0, 1) := by decide +kernel
theorem dL_law_1020 : decode cL_law 1020 = .ok (.iload_n 3, 1) := by decide +kernel
theorem dL_law_1021 : decode cL_law 1021 = .ok (.iconst 1, 1) := by decide +kernel
theorem dL_law_1022 : decode cL_law 1022 = .ok (.iadd, 1) := by decide +kernel
theorem dL_law_1023 : decode cL_law 1023 = .ok (.iaload, 1) := by decide +kernel
theorem dL_law_1024 : decode cL_law 1024 = .ok (.aload_n 0, 1) := by decide +kernel
theorem dL_law_1025 : decode cL_law 1025 = .ok (.iload_n 3, 1) := by decide +kernel
theorem dL_law_1026 : decode cL_law 1026 = .ok (.iconst 2, 1) := by decide +kernel
theorem dL_law_1027 : decode cL_law 1027 = .ok (.iadd, 1) := by decide +kernel
theorem dL_law_1028 : decode cL_law 1028 = .ok (.iaload, 1) := by decide +kernel
theorem dL_law_1029 : decode cL_law 1029 = .ok (.aload_n 0, 1) := by decide +kernel
theorem dL_law_1030 : decode cL_law 1030 = .ok (.iload_n 3, 1) := by decide +kernel
theorem dL_law_1031 : decode cL_law 1031 = .ok (.iconst 3, 1) := by decide +kernel
theorem dL_law_1032 : decode cL_law 1032 = .ok (.iadd, 1) := by decide +kernel
theorem dL_law_1033 : decode cL_law 1033 = .ok (.iaload, 1) := by decide +kernel
theorem dL_law_1034 : decode cL_law 1034 = .ok (.invokevirtual 127, 3) := by decide +kernel
theorem dL_law_1037 : decode cL_law 1037 = .ok (.aload_n 2, 1) := by decide +kernel
theorem dL_law_1038 : decode cL_law 1038 = .ok (.aload_n 0, 1) := by decide +kernel
theorem dL_law_1039 : decode cL_law 1039 = .ok (.iload_n 3, 1) := by decide +kernel
theorem dL_law_1040 : decode cL_law 1040 = .ok (.iconst 1, 1) := by decide +kernel
theorem dL_law_1041 : decode cL_law 1041 = .ok (.iadd, 1) := by decide +kernel
theorem dL_law_1042 : decode cL_law 1042 = .ok (.iaload, 1) := by decide +kernel
theorem dL_law_1043 : decode cL_law 1043 = .ok (.aload_n 0, 1) := by decide +kernel
theorem dL_law_1044 : decode cL_law 1044 = .ok (.iload_n 3, 1) := by decide +kernel
theorem dL_law_1045 : decode cL_law 1045 = .ok (.iconst 2, 1) := by decide +kernel
theorem dL_law_1046 : decode cL_law 1046 = .ok (.iadd, 1) := by decide +kernel
theorem dL_law_1047 : decode cL_law 1047 = .ok (.iaload, 1) := by decide +kernel
theorem dL_law_1048 : decode cL_law 1048 = .ok (.aload_n 0, 1) := by decide +kernel
theorem dL_law_1049 : decode cL_law 1049 = .ok (.iload_n 3, 1) := by decide +kernel
theorem dL_law_1050 : decode cL_law 1050 = .ok (.iconst 3, 1) := by decide +kernel
theorem dL_law_1051 : decode cL_law 1051 = .ok (.iadd, 1) := by decide +kernel
theorem dL_law_1052 : decode cL_law 1052 = .ok (.iaload, 1) := by decide +kernel
theorem dL_law_1053 : decode cL_law 1053 = .ok (.invokevirtual 130, 3) := by decide +kernel
theorem dL_law_1056 : decode cL_law 1056 = .ok (.if_icmp .eq 226, 3) := by decide +kernel
theorem dL_law_1059 : decode cL_law 1059 = .ok (.iconst 0, 1) := by decide +kernel
theorem dL_law_1060 : decode cL_law 1060 = .ok (.ireturn, 1) := by decide +kernel
theorem dL_law_1061 : decode cL_law 1061 = .ok (.aload_n 1, 1) := by decide +kernel
theorem dL_law_1062 : decode cL_law 1062 = .ok (.aload_n 0, 1) := by decide +kernel
theorem dL_law_1063 : decode cL_law 1063 = .ok (.iload_n 3, 1) := by decide +kernel
theorem dL_law_1064 : decode cL_law 1064 = .ok (.iconst 1, 1) := by decide +kernel
theorem dL_law_1065 : decode cL_law 1065 = .ok (.iadd, 1) := by decide +kernel
theorem dL_law_1066 : decode cL_law 1066 = .ok (.iaload, 1) := by decide +kernel
theorem dL_law_1067 : decode cL_law 1067 = .ok (.invokevirtual 131, 3) := by decide +kernel
theorem dL_law_1070 : decode cL_law 1070 = .ok (.aload_n 2, 1) := by decide +kernel
theorem dL_law_1071 : decode cL_law 1071 = .ok (.aload_n 0, 1) := by decide +kernel
theorem dL_law_1072 : decode cL_law 1072 = .ok (.iload_n 3, 1) := by decide +kernel
theorem dL_law_1073 : decode cL_law 1073 = .ok (.iconst 1, 1) := by decide +kernel
theorem dL_law_1074 : decode cL_law 1074 = .ok (.iadd, 1) := by decide +kernel
theorem dL_law_1075 : decode cL_law 1075 = .ok (.iaload, 1) := by decide +kernel
theorem dL_law_1076 : decode cL_law 1076 = .ok (.invokevirtual 134, 3) := by decide +kernel
theorem dL_law_1079 : decode cL_law 1079 = .ok (.if_icmp .eq 203, 3) := by decide +kernel
theorem dL_law_1082 : decode cL_law 1082 = .ok (.iconst 0, 1) := by decide +kernel
theorem dL_law_1083 : decode cL_law 1083 = .ok (.ireturn, 1) := by decide +kernel
theorem dL_law_1084 : decode cL_law 1084 = .ok (.aload_n 1, 1) := by decide +kernel
theorem dL_law_1085 : decode cL_law 1085 = .ok (.aload_n 0, 1) := by decide +kernel
theorem dL_law_1086 : decode cL_law 1086 = .ok (.iload_n 3, 1) := by decide +kernel
theorem dL_law_1087 : decode cL_law 1087 = .ok (.iconst 1, 1) := by decide +kernel
theorem dL_law_1088 : decode cL_law 1088 = .ok (.iadd, 1) := by decide +kernel
theorem dL_law_1089 : decode cL_law 1089 = .ok (.iaload, 1) := by decide +kernel
theorem dL_law_1090 : decode cL_law 1090 = .ok (.invokevirtual 135, 3) := by decide +kernel
theorem dL_law_1093 : decode cL_law 1093 = .ok (.aload_n 2, 1) := by decide +kernel
theorem dL_law_1094 : decode cL_law 1094 = .ok (.aload_n 0, 1) := by decide +kernel
theorem dL_law_1095 : decode cL_law 1095 = .ok (.iload_n 3, 1) := by decide +kernel
theorem dL_law_1096 : decode cL_law 1096 = .ok (.iconst 1, 1) := by decide +kernel
theorem dL_law_1097 : decode cL_law 1097 = .ok (.iadd, 1) := by decide +kernel
theorem dL_law_1098 : decode cL_law 1098 = .ok (.iaload, 1) := by decide +kernel
theorem dL_law_1099 : decode cL_law 1099 = .ok (.invokevirtual 138, 3) := by decide +kernel
theorem dL_law_1102 : decode cL_law 1102 = .ok (.if_icmp .eq 180, 3) := by decide +kernel
theorem dL_law_1105 : decode cL_law 1105 = .ok (.iconst 0, 1) := by decide +kernel
theorem dL_law_1106 : decode cL_law 1106 = .ok (.ireturn, 1) := by decide +kernel
theorem dL_law_1107 : decode cL_law 1107 = .ok (.aload_n 1, 1) := by decide +kernel
theorem dL_law_1108 : decode cL_law 1108 = .ok (.aload_n 0, 1) := by decide +kernel
theorem dL_law_1109 : decode cL_law 1109 = .ok (.iload_n 3, 1) := by decide +kernel
theorem dL_law_1110 : decode cL_law 1110 = .ok (.iconst 1, 1) := by decide +kernel
theorem dL_law_1111 : decode cL_law 1111 = .ok (.iadd, 1) := by decide +kernel
theorem dL_law_1112 : decode cL_law 1112 = .ok (.iaload, 1) := by decide +kernel
theorem dL_law_1113 : decode cL_law 1113 = .ok (.aload_n 0, 1) := by decide +kernel
theorem dL_law_1114 : decode cL_law 1114 = .ok (.iload_n 3, 1) := by decide +kernel
theorem dL_law_1115 : decode cL_law 1115 = .ok (.iconst 2, 1) := by decide +kernel
theorem dL_law_1116 : decode cL_law 1116 = .ok (.iadd, 1) := by decide +kernel
theorem dL_law_1117 : decode cL_law 1117 = .ok (.iaload, 1) := by decide +kernel
theorem dL_law_1118 : decode cL_law 1118 = .ok (.aload_n 0, 1) := by decide +kernel
theorem dL_law_1119 : decode cL_law 1119 = .ok (.iload_n 3, 1) := by decide +kernel
theorem dL_law_1120 : decode cL_law 1120 = .ok (.iconst 3, 1) := by decide +kernel
theorem dL_law_1121 : decode cL_law 1121 = .ok (.iadd, 1) := by decide +kernel
theorem dL_law_1122 : decode cL_law 1122 = .ok (.iaload, 1) := by decide +kernel
theorem dL_law_1123 : decode cL_law 1123 = .ok (.invokevirtual 139, 3) := by decide +kernel
theorem dL_law_1126 : decode cL_law 1126 = .ok (.aload_n 2, 1) := by decide +kernel
theorem dL_law_1127 : decode cL_law 1127 = .ok (.aload_n 0, 1) := by decide +kernel
theorem dL_law_1128 : decode cL_law 1128 = .ok (.iload_n 3, 1) := by decide +kernel
theorem dL_law_1129 : decode cL_law 1129 = .ok (.iconst 1, 1) := by decide +kernel
theorem dL_law_1130 : decode cL_law 1130 = .ok (.iadd, 1) := by decide +kernel
theorem dL_law_1131 : decode cL_law 1131 = .ok (.iaload, 1) := by decide +kernel
theorem dL_law_1132 : decode cL_law 1132 = .ok (.aload_n 0, 1) := by decide +kernel
theorem dL_law_1133 : decode cL_law 1133 = .ok (.iload_n 3, 1) := by decide +kernel
theorem dL_law_1134 : decode cL_law 1134 = .ok (.iconst 2, 1) := by decide +kernel
theorem dL_law_1135 : decode cL_law 1135 = .ok (.iadd, 1) := by decide +kernel
theorem dL_law_1136 : decode cL_law 1136 = .ok (.iaload, 1) := by decide +kernel
theorem dL_law_1137 : decode cL_law 1137 = .ok (.aload_n 0, 1) := by decide +kernel
theorem dL_law_1138 : decode cL_law 1138 = .ok (.iload_n 3, 1) := by decide +kernel
theorem dL_law_1139 : decode cL_law 1139 = .ok (.iconst 3, 1) := by decide +kernel
theorem dL_law_1140 : decode cL_law 1140 = .ok (.iadd, 1) := by decide +kernel
theorem dL_law_1141 : decode cL_law 1141 = .ok (.iaload, 1) := by decide +kernel
theorem dL_law_1142 : decode cL_law 1142 = .ok (.invokevirtual 142, 3) := by decide +kernel
theorem dL_law_1145 : decode cL_law 1145 = .ok (.if_icmp .eq 137, 3) := by decide +kernel
theorem dL_law_1148 : decode cL_law 1148 = .ok (.iconst 0, 1) := by decide +kernel
theorem dL_law_1149 : decode cL_law 1149 = .ok (.ireturn, 1) := by decide +kernel
theorem dL_law_1150 : decode cL_law 1150 = .ok (.aload_n 1, 1) := by decide +kernel
theorem dL_law_1151 : decode cL_law 1151 = .ok (.aload_n 0, 1) := by decide +kernel
theorem dL_law_1152 : decode cL_law 1152 = .ok (.iload_n 3, 1) := by decide +kernel
theorem dL_law_1153 : decode cL_law 1153 = .ok (.iconst 1, 1) := by decide +kernel
theorem dL_law_1154 : decode cL_law 1154 = .ok (.iadd, 1) := by decide +kernel
theorem dL_law_1155 : decode cL_law 1155 = .ok (.iaload, 1) := by decide +kernel
theorem dL_law_1156 : decode cL_law 1156 = .ok (.aload_n 0, 1) := by decide +kernel
theorem dL_law_1157 : decode cL_law 1157 = .ok (.iload_n 3, 1) := by decide +kernel
theorem dL_law_1158 : decode cL_law 1158 = .ok (.iconst 2, 1) := by decide +kernel
theorem dL_law_1159 : decode cL_law 1159 = .ok (.iadd, 1) := by decide +kernel
theorem dL_law_1160 : decode cL_law 1160 = .ok (.iaload, 1) := by decide +kernel
theorem dL_law_1161 : decode cL_law 1161 = .ok (.aload_n 0, 1) := by decide +kernel
theorem dL_law_1162 : decode cL_law 1162 = .ok (.iload_n 3, 1) := by decide +kernel
theorem dL_law_1163 : decode cL_law 1163 = .ok (.iconst 3, 1) := by decide +kernel
theorem dL_law_1164 : decode cL_law 1164 = .ok (.iadd, 1) := by decide +kernel
theorem dL_law_1165 : decode cL_law 1165 = .ok (.iaload, 1) := by decide +kernel
theorem dL_law_1166 : decode cL_law 1166 = .ok (.invokevirtual 143, 3) := by decide +kernel
theorem dL_law_1169 : decode cL_law 1169 = .ok (.aload_n 2, 1) := by decide +kernel
theorem dL_law_1170 : decode cL_law 1170 = .ok (.aload_n 0, 1) := by decide +kernel
theorem dL_law_1171 : decode cL_law 1171 = .ok (.iload_n 3, 1) := by decide +kernel
theorem dL_law_1172 : decode cL_law 1172 = .ok (.iconst 1, 1) := by decide +kernel
theorem dL_law_1173 : decode cL_law 1173 = .ok (.iadd, 1) := by decide +kernel
theorem dL_law_1174 : decode cL_law 1174 = .ok (.iaload, 1) := by decide +kernel
theorem dL_law_1175 : decode cL_law 1175 = .ok (.aload_n 0, 1) := by decide +kernel
theorem dL_law_1176 : decode cL_law 1176 = .ok (.iload_n 3, 1) := by decide +kernel
theorem dL_law_1177 : decode cL_law 1177 = .ok (.iconst 2, 1) := by decide +kernel
theorem dL_law_1178 : decode cL_law 1178 = .ok (.iadd, 1) := by decide +kernel
theorem dL_law_1179 : decode cL_law 1179 = .ok (.iaload, 1) := by decide +kernel
theorem dL_law_1180 : decode cL_law 1180 = .ok (.aload_n 0, 1) := by decide +kernel
theorem dL_law_1181 : decode cL_law 1181 = .ok (.iload_n 3, 1) := by decide +kernel
theorem dL_law_1182 : decode cL_law 1182 = .ok (.iconst 3, 1) := by decide +kernel
theorem dL_law_1183 : decode cL_law 1183 = .ok (.iadd, 1) := by decide +kernel
theorem dL_law_1184 : decode cL_law 1184 = .ok (.iaload, 1) := by decide +kernel
theorem dL_law_1185 : decode cL_law 1185 = .ok (.invokevirtual 146, 3) := by decide +kernel
theorem dL_law_1188 : decode cL_law 1188 = .ok (.if_icmp .eq 94, 3) := by decide +kernel
theorem dL_law_1191 : decode cL_law 1191 = .ok (.iconst 0, 1) := by decide +kernel
theorem dL_law_1192 : decode cL_law 1192 = .ok (.ireturn, 1) := by decide +kernel
theorem dL_law_1193 : decode cL_law 1193 = .ok (.aload_n 1, 1) := by decide +kernel
theorem dL_law_1194 : decode cL_law 1194 = .ok (.aload_n 0, 1) := by decide +kernel
theorem dL_law_1195 : decode cL_law 1195 = .ok (.iload_n 3, 1) := by decide +kernel
theorem dL_law_1196 : decode cL_law 1196 = .ok (.iconst 1, 1) := by decide +kernel
theorem dL_law_1197 : decode cL_law 1197 = .ok (.iadd, 1) := by decide +kernel
theorem dL_law_1198 : decode cL_law 1198 = .ok (.iaload, 1) := by decide +kernel
theorem dL_law_1199 : decode cL_law 1199 = .ok (.aload_n 0, 1) := by decide +kernel
theorem dL_law_1200 : decode cL_law 1200 = .ok (.iload_n 3, 1) := by decide +kernel
theorem dL_law_1201 : decode cL_law 1201 = .ok (.iconst 2, 1) := by decide +kernel
theorem dL_law_1202 : decode cL_law 1202 = .ok (.iadd, 1) := by decide +kernel
theorem dL_law_1203 : decode cL_law 1203 = .ok (.iaload, 1) := by decide +kernel
theorem dL_law_1204 : decode cL_law 1204 = .ok (.aload_n 0, 1) := by decide +kernel
theorem dL_law_1205 : decode cL_law 1205 = .ok (.iload_n 3, 1) := by decide +kernel
theorem dL_law_1206 : decode cL_law 1206 = .ok (.iconst 3, 1) := by decide +kernel
theorem dL_law_1207 : decode cL_law 1207 = .ok (.iadd, 1) := by decide +kernel
theorem dL_law_1208 : decode cL_law 1208 = .ok (.iaload, 1) := by decide +kernel
theorem dL_law_1209 : decode cL_law 1209 = .ok (.aload_n 0, 1) := by decide +kernel
theorem dL_law_1210 : decode cL_law 1210 = .ok (.iload_n 3, 1) := by decide +kernel
theorem dL_law_1211 : decode cL_law 1211 = .ok (.iconst 4, 1) := by decide +kernel
theorem dL_law_1212 : decode cL_law 1212 = .ok (.iadd, 1) := by decide +kernel
theorem dL_law_1213 : decode cL_law 1213 = .ok (.iaload, 1) := by decide +kernel
theorem dL_law_1214 : decode cL_law 1214 = .ok (.invokevirtual 147, 3) := by decide +kernel
theorem dL_law_1217 : decode cL_law 1217 = .ok (.aload_n 2, 1) := by decide +kernel
theorem dL_law_1218 : decode cL_law 1218 = .ok (.aload_n 0, 1) := by decide +kernel
theorem dL_law_1219 : decode cL_law 1219 = .ok (.iload_n 3, 1) := by decide +kernel
theorem dL_law_1220 : decode cL_law 1220 = .ok (.iconst 1, 1) := by decide +kernel
theorem dL_law_1221 : decode cL_law 1221 = .ok (.iadd, 1) := by decide +kernel
theorem dL_law_1222 : decode cL_law 1222 = .ok (.iaload, 1) := by decide +kernel
theorem dL_law_1223 : decode cL_law 1223 = .ok (.aload_n 0, 1) := by decide +kernel
theorem dL_law_1224 : decode cL_law 1224 = .ok (.iload_n 3, 1) := by decide +kernel
theorem dL_law_1225 : decode cL_law 1225 = .ok (.iconst 2, 1) := by decide +kernel
theorem dL_law_1226 : decode cL_law 1226 = .ok (.iadd, 1) := by decide +kernel
theorem dL_law_1227 : decode cL_law 1227 = .ok (.iaload, 1) := by decide +kernel
theorem dL_law_1228 : decode cL_law 1228 = .ok (.aload_n 0, 1) := by decide +kernel
theorem dL_law_1229 : decode cL_law 1229 = .ok (.iload_n 3, 1) := by decide +kernel
theorem dL_law_1230 : decode cL_law 1230 = .ok (.iconst 3, 1) := by decide +kernel
theorem dL_law_1231 : decode cL_law 1231 = .ok (.iadd, 1) := by decide +kernel
theorem dL_law_1232 : decode cL_law 1232 = .ok (.iaload, 1) := by decide +kernel
theorem dL_law_1233 : decode cL_law 1233 = .ok (.aload_n 0, 1) := by decide +kernel
theorem dL_law_1234 : decode cL_law 1234 = .ok (.iload_n 3, 1) := by decide +kernel
theorem dL_law_1235 : decode cL_law 1235 = .ok (.iconst 4, 1) := by decide +kernel
theorem dL_law_1236 : decode cL_law 1236 = .ok (.iadd, 1) := by decide +kernel
theorem dL_law_1237 : decode cL_law 1237 = .ok (.iaload, 1) := by decide +kernel
theorem dL_law_1238 : decode cL_law 1238 = .ok (.invokevirtual 151, 3) := by decide +kernel
theorem dL_law_1241 : decode cL_law 1241 = .ok (.if_icmp .eq 41, 3) := by decide +kernel
theorem dL_law_1244 : decode cL_law 1244 = .ok (.iconst 0, 1) := by decide +kernel
theorem dL_law_1245 : decode cL_law 1245 = .ok (.ireturn, 1) := by decide +kernel
theorem dL_law_1246 : decode cL_law 1246 = .ok (.aload_n 1, 1) := by decide +kernel
theorem dL_law_1247 : decode cL_law 1247 = .ok (.invokevirtual 152, 3) := by decide +kernel
theorem dL_law_1250 : decode cL_law 1250 = .ok (.aload_n 2, 1) := by decide +kernel
theorem dL_law_1251 : decode cL_law 1251 = .ok (.invokevirtual 155, 3) := by decide +kernel
theorem dL_law_1254 : decode cL_law 1254 = .ok (.if_icmp .eq 28, 3) := by decide +kernel
theorem dL_law_1257 : decode cL_law 1257 = .ok (.iconst 0, 1) := by decide +kernel
theorem dL_law_1258 : decode cL_law 1258 = .ok (.ireturn, 1) := by decide +kernel
theorem dL_law_1259 : decode cL_law 1259 = .ok (.aload_n 1, 1) := by decide +kernel
theorem dL_law_1260 : decode cL_law 1260 = .ok (.aload_n 0, 1) := by decide +kernel
theorem dL_law_1261 : decode cL_law 1261 = .ok (.iload_n 3, 1) := by decide +kernel
theorem dL_law_1262 : decode cL_law 1262 = .ok (.iconst 1, 1) := by decide +kernel
theorem dL_law_1263 : decode cL_law 1263 = .ok (.iadd, 1) := by decide +kernel
theorem dL_law_1264 : decode cL_law 1264 = .ok (.iaload, 1) := by decide +kernel
theorem dL_law_1265 : decode cL_law 1265 = .ok (.invokevirtual 156, 3) := by decide +kernel
theorem dL_law_1268 : decode cL_law 1268 = .ok (.aload_n 2, 1) := by decide +kernel
theorem dL_law_1269 : decode cL_law 1269 = .ok (.aload_n 0, 1) := by decide +kernel
theorem dL_law_1270 : decode cL_law 1270 = .ok (.iload_n 3, 1) := by decide +kernel
theorem dL_law_1271 : decode cL_law 1271 = .ok (.iconst 1, 1) := by decide +kernel
theorem dL_law_1272 : decode cL_law 1272 = .ok (.iadd, 1) := by decide +kernel
theorem dL_law_1273 : decode cL_law 1273 = .ok (.iaload, 1) := by decide +kernel
theorem dL_law_1274 : decode cL_law 1274 = .ok (.invokevirtual 159, 3) := by decide +kernel
theorem dL_law_1277 : decode cL_law 1277 = .ok (.if_icmp .eq 5, 3) := by decide +kernel
theorem dL_law_1280 : decode cL_law 1280 = .ok (.iconst 0, 1) := by decide +kernel
theorem dL_law_1281 : decode cL_law 1281 = .ok (.ireturn, 1) := by decide +kernel
theorem dL_law_1282 : decode cL_law 1282 = .ok (.iinc 3 5, 3) := by decide +kernel
theorem dL_law_1285 : decode cL_law 1285 = .ok (.goto (-1267), 3) := by decide +kernel
theorem dL_law_1288 : decode cL_law 1288 = .ok (.iconst 1, 1) := by decide +kernel
theorem dL_law_1289 : decode cL_law 1289 = .ok (.ireturn, 1) := by decide +kernel
end
section

/-! THE ABSTRACT HEAP: cells by their places; a method's walk in words of it -/
def gw : List Cond := lw_tbl.filter goodWord
theorem gw_in {w : Cond} (h : w ∈ lw_tbl) (g : goodWord w = true) : w ∈ gw := List.mem_filter.mpr ⟨h, g⟩
theorem gw_good {w : Cond} (h : w ∈ gw) : GoodIn gw [w] := fun v hv => by
  rw [List.mem_singleton.mp hv]
  exact ⟨h, good_of_word (List.mem_filter.mp h).2⟩
theorem gw_all : GoodIn gw gw := fun w h => ⟨h, good_of_word (List.mem_filter.mp h).2⟩
abbrev ab_C : Type := (Nat × Nat × (Nat → Int32)) ⊕ ((Nat × List (Option Nat)) ⊕ (Nat × List Value))
abbrev ab_H : Type := List ab_C
abbrev aI (t n : Nat) (f : Nat → Int32) : ab_C := .inl (t, n, f)
abbrev aR (t : Nat) (l : List (Option Nat)) : ab_C := .inr (.inl (t, l))
abbrev aO (c : Nat) (fs : List Value) : ab_C := .inr (.inr (c, fs))
/-- an abstract value's own: a place becomes an address, a text's number its address -/
def xv (ad : Nat → Nat) (sk : Nat → Option Nat) : Value → Value
  | .ref k => .ref (ad k)
  | .retAddr i => va_rf (sk i)
  | .int x => .int x
  | .long x => .long x
  | .float x => .float x
  | .double x => .double x
  | .null => .null
def xc (ad : Nat → Nat) (sk : Nat → Option Nat) (ac : Nat → ClassId) : ab_C → va_E
  | .inl (t, n, f) => .inl (ac t, n, .inl f)
  | .inr (.inl (t, l)) => .inl (ac t, l.length, .inr (.inr (.inr (.inr (fun j => (l.getD j none).map ad)))))
  | .inr (.inr (c, fs)) => .inr (c, fs.map (xv ad sk))
def xw (ad : Nat → Nat) (sk : Nat → Option Nat) (ac : Nat → ClassId) (h : ab_H) : va_W := h.mapIdx (fun i c => (ad i, xc ad sk ac c))
theorem xw_at {ad : Nat → Nat} {sk : Nat → Option Nat} {ac : Nat → ClassId} {h : ab_H} {k : Nat} : (xw ad sk ac h)[k]? = (h[k]?).map (fun c => (ad k, xc ad sk ac c)) := by
  simp [xw, List.getElem?_mapIdx]
theorem xw_of {ad : Nat → Nat} {sk : Nat → Option Nat} {ac : Nat → ClassId} {h : ab_H} {k : Nat} {c : ab_C} (hk : h[k]? = some c) : (xw ad sk ac h)[k]? = some (ad k, xc ad sk ac c) := by
  rw [xw_at, hk]; rfl
theorem xw_set {ad : Nat → Nat} {sk : Nat → Option Nat} {ac : Nat → ClassId} {h : ab_H} {k : Nat} {c : ab_C} : (xw ad sk ac h).set k (ad k, xc ad sk ac c) = xw ad sk ac (h.set k c) := by
  apply List.ext_getElem?
  intro i
  rw [xw_at, List.getElem?_set, List.getElem?_set, xw_at]
  have hl : (xw ad sk ac h).length = h.length := by simp [xw]
  rw [hl]
  by_cases hk : k = i
  · subst hk
    simp only [if_true]
    by_cases h2 : k < h.length <;> simp [h2]
  · simp [hk]
theorem xw_push {ad : Nat → Nat} {sk : Nat → Option Nat} {ac : Nat → ClassId} {h : ab_H} {c : ab_C} : xw ad sk ac (h ++ [c]) = xw ad sk ac h ++ [(ad h.length, xc ad sk ac c)] := by
  simp [xw, List.mapIdx_append]
def ab_ty (ac : Nat → ClassId) : List (ClassId × FieldType) := [(ac 0, .int), (ac 1, .byte), (ac 2, .boolean), (ac 3, .object RX1), (ac 4, .object RX2)]
def ab_isN : Cond → Bool
  | .methodLinkNest .. => true
  | _ => false
def ab_str : List (Nat × String) := [(97, "polite"), (103, "rude"), (105, "deaf"), (107, "cook"), (109, "fire"), (111, "rain"), (113, "offer")]
def ab_len : List Nat := [6, 4, 4, 4, 4, 4, 5]
def ab_byt : List (List Int32) := [[112, 111, 108, 105, 116, 101], [114, 117, 100, 101], [100, 101, 97, 102], [99, 111, 111, 107], [102, 105, 114, 101], [114, 97, 105, 110], [111, 102, 102, 101, 114]]
def ab_fac (j : Nat) : Int32 := ([1, 1, 2, 6, 24, 120] : List Int32).getD j 0
/-- what nobody writes: links of the nest, texts, statics, array classes -/
def SX (sk : Nat → Option Nat) (A : Nat → Prop) (U : State) (H : Heap) : Prop :=
  (∀ w ∈ lw_tbl, ab_isN w = true → va_Nw w U) ∧
  (∃ adK adV : Nat → Nat, (∀ i, i < 7 → sk i = some (adK i) ∧ sk (8 + i) = some (adV i) ∧ vk_R RX5 (ab_str.getD i (0, "")).1 (ab_str.getD i (0, "")).2 (adK i) U) ∧ vk_S 7 ab_len ab_byt adK adV A U H) ∧
  va_Z "java/lang/String" "COMPACT_STRINGS" "Z" (.int 1) A U H ∧
  (∃ t : Nat, sk 7 = some t ∧ va_Z RX6 "FACTORIAL" "[I" (.ref t) A U H ∧ va_T .int t 6 (fun j => .int (ab_fac j)) A U H) ∧
  va_Z "jdk/internal/util/Preconditions" "SIOOBE_FORMATTER" "Ljava/util/function/BiFunction;" (va_rf (sk 15)) A U H ∧
  va_AO RX1 U ∧ va_AO RX2 U
theorem SX.same {sk : Nat → Option Nat} {A : Nat → Prop} {u U : State} {H : Heap} (hv : U.vm = u.vm) (h : SX sk A u H) : SX sk A U H := by
  have hal : u.vm.Alike U.vm := by rw [hv]; exact Vm.Alike.refl _
  obtain ⟨h1, ⟨adK, adV, h2, h3⟩, h4, ⟨t, h0, h5, h6⟩, h9, h7, h8⟩ := h
  refine ⟨fun w hw hn => ?_, ⟨adK, adV, fun i hi => ⟨(h2 i hi).1, (h2 i hi).2.1, vk_R.same hv (h2 i hi).2.2⟩, vk_S.moved hal h3⟩, va_Z.moved hal h4, ⟨t, h0, va_Z.moved hal h5, va_T.moved hal h6⟩, va_Z.moved hal h9, va_AO.moved hal h7, va_AO.moved hal h8⟩
  cases w <;> first | (simp [ab_isN] at hn; done) | exact va_Nw.same rfl hv.symm (h1 _ hw hn)
theorem SX.move {sk : Nat → Option Nat} {A B : Nat → Prop} {s U : State} {H : Heap} {locs : List Loc} (h : SX sk A s s.heap) (hS : va_S A s.heap H locs) (hW : s.WarmedH U.vm) (hU : U.heap = H) (hB : ∀ q, B q → A q) : SX sk B U U.heap := by
  have hal := hW.alike
  have hk : ∀ a : Nat, a < s.heap.size → ¬ A a → U.heap[a]? = s.heap[a]? := fun a h1 h2 => by rw [hU]; exact hS.2.1 a h1 h2
  obtain ⟨h1, ⟨adK, adV, h2, h3⟩, h4, ⟨t, h0, h5, h6⟩, h9, h7, h8⟩ := h
  refine ⟨fun w hw hn => ?_, ⟨adK, adV, fun i hi => ⟨(h2 i hi).1, (h2 i hi).2.1, vk_R.warm hW (h2 i hi).2.2⟩, (vk_S.moved hal (h3.kept hk)).narrow hB⟩, (va_Z.moved hal (h4.kept hk)).narrow hB, ⟨t, h0, (va_Z.moved hal (h5.kept hk)).narrow hB, (va_T.moved hal (h6.kept hk)).narrow hB⟩, (va_Z.moved hal (h9.kept hk)).narrow hB, va_AO.moved hal h7, va_AO.moved hal h8⟩
  cases w <;> first | (simp [ab_isN] at hn; done) | exact va_Nw.warmM hW (h1 _ hw hn)
def Cx (own nm : String) (cc : ByteArray) (nL : Nat) (ret : Option FieldType) (p : Program) (s : State) (m : MethodId) (args : Array Value) (meth : Method) (c : Code) : Prop :=
  p.tables.exec = Jvm.exec ∧ c.code = cc ∧ meth.sig.returnType = ret ∧ c.maxLocals = nL ∧ s.vm.findClass own = some m.cls ∧ (∀ w ∈ gw, w.before args s = true) ∧ meth.locks = false ∧ meth.name = nm
def Nw (dC : Nat → ClassId) (dI : Nat → Nat → Nat) (ac : Nat → ClassId) (sk : Nat → Option Nat) (A : Nat → Prop) (ad0 : Nat → Nat) (n0 : Nat) (s : State) (nL : Nat) (L : List (Nat × Value)) (h : ab_H) (ad : Nat → Nat) (H : Heap) (locs : List Loc) (ls : Array Slot) : Prop :=
  (n0 ≤ h.length ∧ (∀ j, j < n0 → ad j = ad0 j) ∧ (h.length = n0 → ad = ad0)) ∧ va_P (dC, dI) vwCl (xw ad sk ac h) H ∧ va_D A (xw ad sk ac h) ∧ va_S A s.heap H locs ∧ lv_has ls nL (L.map (fun q => (q.1, xv ad sk q.2)))
/-- which instruction leaves with which answer -/
def ab_ret (ret : Option FieldType) (v : Option Value) (ins : Instr) : Prop :=
  (ret = none ∧ v = none ∧ ins = .return_) ∨ (∃ ty x, ret = some ty ∧ v = some (.int x) ∧ ins = .ireturn ∧ narrow ty (.int x) = .int x) ∨ (ret = some .long ∧ ∃ x, v = some (.long x) ∧ ins = .lreturn) ∨ (∃ t r, ret = some (.object t) ∧ v = some (.ref r) ∧ ins = .areturn)
def Ev (own nm : String) (cc : ByteArray) (nL : Nat) (ret : Option FieldType) (R : Room) (Q : Option Value → ab_H → Prop) (mc ms : Nat) (p : Program) (l : Launch) (e : Env) (s : State) (m : MethodId) (args : Array Value) (below : List Frame) (meth : Method) (c : Code) (dC : Nat → ClassId) (dI : Nat → Nat → Nat) (ac : Nat → ClassId) (sk : Nat → Option Nat) (A : Nat → Prop) (ad0 : Nat → Nat) (n0 : Nat) (Qs : State → Prop) : Prop :=
  Cx own nm cc nL ret p s m args meth c ∧ (∀ q, s.heap.size ≤ q → A q) ∧ SX sk A s s.heap ∧ va_K (dC, dI) vwCl (ab_ty ac) s ∧
  ∀ (ad : Nat → Nat) (H : Heap) (locs : List Loc) (ls : Array Slot) (v : Option Value) (ins : Instr) (h : ab_H) (pcr : Nat), Q v h → ab_ret ret v ins → decode cc pcr = .ok (ins, 1) → Nw dC dI ac sk A ad0 n0 s nL [] h ad H locs ls → W p l e R s m args below meth c H locs mc ms Qs (F0 m pcr ls (v.toList.map (xv ad sk)))
def Vd (own nm : String) (cc : ByteArray) (nL : Nat) (ret : Option FieldType) (R : Room) (Q : Option Value → ab_H → Prop) (mc ms k n pc : Nat) (L : List (Nat × Value)) (st : List Value) (h : ab_H) : Prop :=
  ∀ (p : Program) (l : Launch) (e : Env) (s : State) (m : MethodId) (args : Array Value) (below : List Frame) (meth : Method) (c : Code) (dC : Nat → ClassId) (dI : Nat → Nat → Nat) (ac : Nat → ClassId) (sk : Nat → Option Nat) (A : Nat → Prop) (ad0 : Nat → Nat) (n0 : Nat) (Qs : State → Prop),
    Ev own nm cc nL ret R Q mc ms p l e s m args below meth c dC dI ac sk A ad0 n0 Qs → ∀ (ad : Nat → Nat) (H : Heap) (locs : List Loc) (ls : Array Slot), Nw dC dI ac sk A ad0 n0 s nL L h ad H locs ls → W p l e R s m args below meth c H locs k n Qs (F0 m pc ls (st.map (xv ad sk)))
theorem xv_cat (ad : Nat → Nat) (sk : Nat → Option Nat) (v : Value) : (xv ad sk v).category = v.category := by
  cases v with
  | retAddr i => show (va_rf (sk i)).category = 1; cases sk i <;> rfl
  | _ => rfl
theorem xv_cats (ad : Nat → Nat) (sk : Nat → Option Nat) (st : List Value) : ((st.map (xv ad sk)).map fun v => v.category) = st.map fun v => v.category := by
  rw [List.map_map]
  exact List.map_congr_left (fun v _ => xv_cat ad sk v)
/-- a local's value -/
def ab_lk (L : List (Nat × Value)) (i : Nat) : Option Value := (L.find? (fun q => q.1 == i)).map (fun q => q.2)
theorem ab_lk_in {L : List (Nat × Value)} {i : Nat} {v : Value} (h : ab_lk L i = some v) : (i, v) ∈ L := by
  unfold ab_lk at h
  cases hf : L.find? (fun q => q.1 == i) with
  | none => rw [hf] at h; cases h
  | some q =>
    rw [hf] at h
    have h1 := List.mem_of_find?_eq_some hf
    have h2 := List.find?_some hf
    have e1 : q.1 = i := by simpa using h2
    have e2 : q.2 = v := Option.some.inj h
    rw [← e1, ← e2]
    exact h1
theorem ab_lk_at {L : List (Nat × Value)} {i : Nat} {v : Value} {ad : Nat → Nat} {sk : Nat → Option Nat} {ls : Array Slot} {nL : Nat} (h : ab_lk L i = some v) (hl : lv_has ls nL (L.map (fun q => (q.1, xv ad sk q.2)))) : ls[i]? = some (.val (xv ad sk v)) :=
  hl.2.2 (i, xv ad sk v) (List.mem_map.mpr ⟨(i, v), ab_lk_in h, rfl⟩)
/-- storing a value of one word, of two -/
def ab_s1 (L : List (Nat × Value)) (i : Nat) (v : Value) : List (Nat × Value) := (i, v) :: L.filter (fun q => !(q.1 == i) && !(q.1 + 1 == i && q.2.category == 2))
def ab_s2 (L : List (Nat × Value)) (i : Nat) (v : Value) : List (Nat × Value) := (i, v) :: L.filter (fun q => !(q.1 == i) && (!(q.1 == i + 1) && !(q.1 + 1 == i && q.2.category == 2)))
theorem ab_s1_map {L : List (Nat × Value)} {i : Nat} {v : Value} {ad : Nat → Nat} {sk : Nat → Option Nat} : (i, xv ad sk v) :: (L.map (fun q => (q.1, xv ad sk q.2))).filter (fun q => !(q.1 == i) && !(q.1 + 1 == i && q.2.category == 2)) = (ab_s1 L i v).map (fun q => (q.1, xv ad sk q.2)) := by
  simp only [ab_s1, List.map_cons, List.filter_map]
  congr 2
  apply List.filter_congr
  intro q _
  simp [xv_cat]
theorem ab_s2_map {L : List (Nat × Value)} {i : Nat} {v : Value} {ad : Nat → Nat} {sk : Nat → Option Nat} : (i, xv ad sk v) :: (L.map (fun q => (q.1, xv ad sk q.2))).filter (fun q => !(q.1 == i) && (!(q.1 == i + 1) && !(q.1 + 1 == i && q.2.category == 2))) = (ab_s2 L i v).map (fun q => (q.1, xv ad sk q.2)) := by
  simp only [ab_s2, List.map_cons, List.filter_map]
  congr 2
  apply List.filter_congr
  intro q _
  simp [xv_cat]
theorem Nw.loc {dC : Nat → ClassId} {dI : Nat → Nat → Nat} {ac : Nat → ClassId} {sk : Nat → Option Nat} {A : Nat → Prop} {ad0 : Nat → Nat} {n0 : Nat} {s : State} {nL : Nat} {L L' : List (Nat × Value)} {h : ab_H} {ad : Nat → Nat} {H : Heap} {locs : List Loc} {ls : Array Slot} (N : Nw dC dI ac sk A ad0 n0 s nL L h ad H locs ls) (hs : ∀ q ∈ L', q ∈ L) : Nw dC dI ac sk A ad0 n0 s nL L' h ad H locs ls := by
  obtain ⟨h1, h2, h3, h4, h5, h6, h7⟩ := N
  refine ⟨h1, h2, h3, h4, h5, h6, fun q hq => ?_⟩
  obtain ⟨r, hr, e⟩ := List.mem_map.mp hq
  exact h7 q (List.mem_map.mpr ⟨r, hs r hr, e⟩)

section VROWS
variable {own nm : String} {cc : ByteArray} {nL : Nat} {ret : Option FieldType} {R : Room} {Q : Option Value → ab_H → Prop} {mc ms k n pc : Nat} {L : List (Nat × Value)} {st : List Value} {h : ab_H}
theorem v_iconst {z : Int} {v : Int32} (hd : decode cc pc = .ok (.iconst z, 1)) (hv : Int32.ofInt z = v) (kk : Vd own nm cc nL ret R Q mc ms k n (pc + 1) L (.int v :: st) h) : Vd own nm cc nL ret R Q mc ms k n pc L (st) h := by
  intro p l e s m args below meth c dC dI ac sk A ad0 n0 Qs E ad H locs ls N
  exact lv_iconst E.1.1 E.1.2.1 hd hv (kk p l e s m args below meth c dC dI ac sk A ad0 n0 Qs E ad H locs ls N)
theorem v_bipush {z : Int} {v : Int32} (hd : decode cc pc = .ok (.bipush z, 2)) (hv : (Int8.ofInt z).toInt32 = v) (kk : Vd own nm cc nL ret R Q mc ms k n (pc + 2) L (.int v :: st) h) : Vd own nm cc nL ret R Q mc ms k n pc L (st) h := by
  intro p l e s m args below meth c dC dI ac sk A ad0 n0 Qs E ad H locs ls N
  exact lv_bipush E.1.1 E.1.2.1 hd hv (kk p l e s m args below meth c dC dI ac sk A ad0 n0 Qs E ad H locs ls N)
theorem v_sipush {z : Int} {v : Int32} (hd : decode cc pc = .ok (.sipush z, 3)) (hv : (Int16.ofInt z).toInt32 = v) (kk : Vd own nm cc nL ret R Q mc ms k n (pc + 3) L (.int v :: st) h) : Vd own nm cc nL ret R Q mc ms k n pc L (st) h := by
  intro p l e s m args below meth c dC dI ac sk A ad0 n0 Qs E ad H locs ls N
  exact lv_sipush E.1.1 E.1.2.1 hd hv (kk p l e s m args below meth c dC dI ac sk A ad0 n0 Qs E ad H locs ls N)
theorem v_lconst {z : Fin 2} {v : Int64} (hd : decode cc pc = .ok (.lconst z, 1)) (hv : Int64.ofNat (z : Nat) = v) (kk : Vd own nm cc nL ret R Q mc ms k n (pc + 1) L (.long v :: st) h) : Vd own nm cc nL ret R Q mc ms k n pc L (st) h := by
  intro p l e s m args below meth c dC dI ac sk A ad0 n0 Qs E ad H locs ls N
  exact lv_lconst E.1.1 E.1.2.1 hd hv (kk p l e s m args below meth c dC dI ac sk A ad0 n0 Qs E ad H locs ls N)
theorem v_iload_n {j : Fin 4} {x : Int32} (hd : decode cc pc = .ok (.iload_n j, 1)) (hl : ab_lk L j = some (.int x)) (kk : Vd own nm cc nL ret R Q mc ms k n (pc + 1) L (.int x :: st) h) : Vd own nm cc nL ret R Q mc ms k n pc L (st) h := by
  intro p l e s m args below meth c dC dI ac sk A ad0 n0 Qs E ad H locs ls N
  exact lv_iload_n E.1.1 E.1.2.1 hd rfl (ab_lk_at hl N.2.2.2.2) (kk p l e s m args below meth c dC dI ac sk A ad0 n0 Qs E ad H locs ls N)
theorem v_iload {i : Nat} {x : Int32} (hd : decode cc pc = .ok (.iload i, 2)) (hl : ab_lk L i = some (.int x)) (kk : Vd own nm cc nL ret R Q mc ms k n (pc + 2) L (.int x :: st) h) : Vd own nm cc nL ret R Q mc ms k n pc L (st) h := by
  intro p l e s m args below meth c dC dI ac sk A ad0 n0 Qs E ad H locs ls N
  exact lv_iload E.1.1 E.1.2.1 hd (ab_lk_at hl N.2.2.2.2) (kk p l e s m args below meth c dC dI ac sk A ad0 n0 Qs E ad H locs ls N)
theorem v_lload_n {j : Fin 4} {x : Int64} (hd : decode cc pc = .ok (.lload_n j, 1)) (hl : ab_lk L j = some (.long x)) (kk : Vd own nm cc nL ret R Q mc ms k n (pc + 1) L (.long x :: st) h) : Vd own nm cc nL ret R Q mc ms k n pc L (st) h := by
  intro p l e s m args below meth c dC dI ac sk A ad0 n0 Qs E ad H locs ls N
  exact lv_lload_n E.1.1 E.1.2.1 hd rfl (ab_lk_at hl N.2.2.2.2) (kk p l e s m args below meth c dC dI ac sk A ad0 n0 Qs E ad H locs ls N)
theorem v_lload {i : Nat} {x : Int64} (hd : decode cc pc = .ok (.lload i, 2)) (hl : ab_lk L i = some (.long x)) (kk : Vd own nm cc nL ret R Q mc ms k n (pc + 2) L (.long x :: st) h) : Vd own nm cc nL ret R Q mc ms k n pc L (st) h := by
  intro p l e s m args below meth c dC dI ac sk A ad0 n0 Qs E ad H locs ls N
  exact lv_lload E.1.1 E.1.2.1 hd (ab_lk_at hl N.2.2.2.2) (kk p l e s m args below meth c dC dI ac sk A ad0 n0 Qs E ad H locs ls N)
theorem v_aload_n {j : Fin 4} {x : Nat} (hd : decode cc pc = .ok (.aload_n j, 1)) (hl : ab_lk L j = some (.ref x)) (kk : Vd own nm cc nL ret R Q mc ms k n (pc + 1) L (.ref x :: st) h) : Vd own nm cc nL ret R Q mc ms k n pc L (st) h := by
  intro p l e s m args below meth c dC dI ac sk A ad0 n0 Qs E ad H locs ls N
  exact lv_aload_n E.1.1 E.1.2.1 hd rfl (ab_lk_at hl N.2.2.2.2) (kk p l e s m args below meth c dC dI ac sk A ad0 n0 Qs E ad H locs ls N)
theorem v_aload {i : Nat} {x : Nat} (hd : decode cc pc = .ok (.aload i, 2)) (hl : ab_lk L i = some (.ref x)) (kk : Vd own nm cc nL ret R Q mc ms k n (pc + 2) L (.ref x :: st) h) : Vd own nm cc nL ret R Q mc ms k n pc L (st) h := by
  intro p l e s m args below meth c dC dI ac sk A ad0 n0 Qs E ad H locs ls N
  exact lv_aload E.1.1 E.1.2.1 hd (ab_lk_at hl N.2.2.2.2) (kk p l e s m args below meth c dC dI ac sk A ad0 n0 Qs E ad H locs ls N)
theorem v_sload_n {j : Fin 4} {x : Nat} (hd : decode cc pc = .ok (.aload_n j, 1)) (hl : ab_lk L j = some (.retAddr x)) (hx : x < 7 ∨ (8 ≤ x ∧ x < 15)) (kk : Vd own nm cc nL ret R Q mc ms k n (pc + 1) L (.retAddr x :: st) h) : Vd own nm cc nL ret R Q mc ms k n pc L st h := by
  intro p l e s m args below meth c dC dI ac sk A ad0 n0 Qs E ad H locs ls N
  obtain ⟨a, ha⟩ : ∃ a, sk x = some a := by
    obtain ⟨-, ⟨adK, adV, h2, -⟩, -⟩ := E.2.2.1
    rcases hx with hx | hx
    · exact ⟨_, (h2 x hx).1⟩
    · have := (h2 (x - 8) (by omega)).2.1
      rw [show 8 + (x - 8) = x by omega] at this
      exact ⟨_, this⟩
  have h1 := ab_lk_at hl N.2.2.2.2
  have e1 : xv ad sk (.retAddr x) = .ref a := by show va_rf (sk x) = _; rw [ha]; rfl
  rw [e1] at h1
  have k2 := (kk p l e s m args below meth c dC dI ac sk A ad0 n0 Qs E ad H locs ls N)
  rw [List.map_cons, e1] at k2
  exact lv_aload_n E.1.1 E.1.2.1 hd rfl h1 k2
theorem v_istore_n {j : Fin 4} {i : Nat} {x : Int32} {L2 : List (Nat × Value)} (hd : decode cc pc = .ok (.istore_n j, 1)) (hi : (j : Nat) = i) (hn : i < nL) (hl : ab_s1 L i (.int x) = L2) (kk : Vd own nm cc nL ret R Q mc ms k n (pc + 1) L2 st h) : Vd own nm cc nL ret R Q mc ms k n pc L (.int x :: st) h := by
  intro p l e s m args below meth c dC dI ac sk A ad0 n0 Qs E ad H locs ls N
  exact lv_istore_n E.1.1 E.1.2.1 hd hi N.2.2.2.2 hn (ab_s1_map (v := .int x) (ad := ad) (sk := sk)) (fun ls2 hl2 => kk p l e s m args below meth c dC dI ac sk A ad0 n0 Qs E ad H locs ls2 ⟨N.1, N.2.1, N.2.2.1, N.2.2.2.1, hl ▸ hl2⟩)
theorem v_istore {i : Nat} {x : Int32} {L2 : List (Nat × Value)} (hd : decode cc pc = .ok (.istore i, 2)) (hn : i < nL) (hl : ab_s1 L i (.int x) = L2) (kk : Vd own nm cc nL ret R Q mc ms k n (pc + 2) L2 st h) : Vd own nm cc nL ret R Q mc ms k n pc L (.int x :: st) h := by
  intro p l e s m args below meth c dC dI ac sk A ad0 n0 Qs E ad H locs ls N
  exact lv_istore E.1.1 E.1.2.1 hd N.2.2.2.2 hn (ab_s1_map (v := .int x) (ad := ad) (sk := sk)) (fun ls2 hl2 => kk p l e s m args below meth c dC dI ac sk A ad0 n0 Qs E ad H locs ls2 ⟨N.1, N.2.1, N.2.2.1, N.2.2.2.1, hl ▸ hl2⟩)
theorem v_lstore_n {j : Fin 4} {i : Nat} {x : Int64} {L2 : List (Nat × Value)} (hd : decode cc pc = .ok (.lstore_n j, 1)) (hi : (j : Nat) = i) (hn : i + 1 < nL) (hl : ab_s2 L i (.long x) = L2) (kk : Vd own nm cc nL ret R Q mc ms k n (pc + 1) L2 st h) : Vd own nm cc nL ret R Q mc ms k n pc L (.long x :: st) h := by
  intro p l e s m args below meth c dC dI ac sk A ad0 n0 Qs E ad H locs ls N
  exact lv_lstore_n E.1.1 E.1.2.1 hd hi N.2.2.2.2 hn (ab_s2_map (v := .long x) (ad := ad) (sk := sk)) (fun ls2 hl2 => kk p l e s m args below meth c dC dI ac sk A ad0 n0 Qs E ad H locs ls2 ⟨N.1, N.2.1, N.2.2.1, N.2.2.2.1, hl ▸ hl2⟩)
theorem v_lstore {i : Nat} {x : Int64} {L2 : List (Nat × Value)} (hd : decode cc pc = .ok (.lstore i, 2)) (hn : i + 1 < nL) (hl : ab_s2 L i (.long x) = L2) (kk : Vd own nm cc nL ret R Q mc ms k n (pc + 2) L2 st h) : Vd own nm cc nL ret R Q mc ms k n pc L (.long x :: st) h := by
  intro p l e s m args below meth c dC dI ac sk A ad0 n0 Qs E ad H locs ls N
  exact lv_lstore E.1.1 E.1.2.1 hd N.2.2.2.2 hn (ab_s2_map (v := .long x) (ad := ad) (sk := sk)) (fun ls2 hl2 => kk p l e s m args below meth c dC dI ac sk A ad0 n0 Qs E ad H locs ls2 ⟨N.1, N.2.1, N.2.2.1, N.2.2.2.1, hl ▸ hl2⟩)
theorem v_astore_n {j : Fin 4} {i : Nat} {x : Nat} {L2 : List (Nat × Value)} (hd : decode cc pc = .ok (.astore_n j, 1)) (hi : (j : Nat) = i) (hn : i < nL) (hl : ab_s1 L i (.ref x) = L2) (kk : Vd own nm cc nL ret R Q mc ms k n (pc + 1) L2 st h) : Vd own nm cc nL ret R Q mc ms k n pc L (.ref x :: st) h := by
  intro p l e s m args below meth c dC dI ac sk A ad0 n0 Qs E ad H locs ls N
  exact lv_astore_n E.1.1 E.1.2.1 hd hi N.2.2.2.2 hn (ab_s1_map (v := .ref x) (ad := ad) (sk := sk)) (fun ls2 hl2 => kk p l e s m args below meth c dC dI ac sk A ad0 n0 Qs E ad H locs ls2 ⟨N.1, N.2.1, N.2.2.1, N.2.2.2.1, hl ▸ hl2⟩)
theorem v_astore {i : Nat} {x : Nat} {L2 : List (Nat × Value)} (hd : decode cc pc = .ok (.astore i, 2)) (hn : i < nL) (hl : ab_s1 L i (.ref x) = L2) (kk : Vd own nm cc nL ret R Q mc ms k n (pc + 2) L2 st h) : Vd own nm cc nL ret R Q mc ms k n pc L (.ref x :: st) h := by
  intro p l e s m args below meth c dC dI ac sk A ad0 n0 Qs E ad H locs ls N
  exact lv_astore E.1.1 E.1.2.1 hd N.2.2.2.2 hn (ab_s1_map (v := .ref x) (ad := ad) (sk := sk)) (fun ls2 hl2 => kk p l e s m args below meth c dC dI ac sk A ad0 n0 Qs E ad H locs ls2 ⟨N.1, N.2.1, N.2.2.1, N.2.2.2.1, hl ▸ hl2⟩)
theorem v_iinc {i : Nat} {z : Int} {x v : Int32} {L2 : List (Nat × Value)} (hd : decode cc pc = .ok (.iinc i z, 3)) (hk : ab_lk L i = some (.int x)) (hv : x + Int32.ofInt z = v) (hn : i < nL) (hl : ab_s1 L i (.int v) = L2) (kk : Vd own nm cc nL ret R Q mc ms k n (pc + 3) L2 st h) : Vd own nm cc nL ret R Q mc ms k n pc L st h := by
  intro p l e s m args below meth c dC dI ac sk A ad0 n0 Qs E ad H locs ls N
  obtain ⟨j, hj⟩ := List.getElem?_of_mem (List.mem_map.mpr ⟨(i, .int x), ab_lk_in hk, rfl⟩ : (i, xv ad sk (.int x)) ∈ L.map (fun q => (q.1, xv ad sk q.2)))
  exact lv_iinc (k := j) E.1.1 E.1.2.1 hd N.2.2.2.2 hj hv hn (ab_s1_map (v := .int v) (ad := ad) (sk := sk)) (fun ls2 hl2 => kk p l e s m args below meth c dC dI ac sk A ad0 n0 Qs E ad H locs ls2 ⟨N.1, N.2.1, N.2.2.1, N.2.2.2.1, hl ▸ hl2⟩)
theorem v_iadd {x y : Int32} (hd : decode cc pc = .ok (.iadd, 1)) (kk : Vd own nm cc nL ret R Q mc ms k n (pc + 1) L (.int (x + y) :: st) h) : Vd own nm cc nL ret R Q mc ms k n pc L (.int y :: .int x :: st) h := by
  intro p l e s m args below meth c dC dI ac sk A ad0 n0 Qs E ad H locs ls N
  exact lv_iadd E.1.1 E.1.2.1 hd (kk p l e s m args below meth c dC dI ac sk A ad0 n0 Qs E ad H locs ls N)
theorem v_isub {x y : Int32} (hd : decode cc pc = .ok (.isub, 1)) (kk : Vd own nm cc nL ret R Q mc ms k n (pc + 1) L (.int (x - y) :: st) h) : Vd own nm cc nL ret R Q mc ms k n pc L (.int y :: .int x :: st) h := by
  intro p l e s m args below meth c dC dI ac sk A ad0 n0 Qs E ad H locs ls N
  exact lv_isub E.1.1 E.1.2.1 hd (kk p l e s m args below meth c dC dI ac sk A ad0 n0 Qs E ad H locs ls N)
theorem v_imul {x y : Int32} (hd : decode cc pc = .ok (.imul, 1)) (kk : Vd own nm cc nL ret R Q mc ms k n (pc + 1) L (.int (x * y) :: st) h) : Vd own nm cc nL ret R Q mc ms k n pc L (.int y :: .int x :: st) h := by
  intro p l e s m args below meth c dC dI ac sk A ad0 n0 Qs E ad H locs ls N
  exact lv_imul E.1.1 E.1.2.1 hd (kk p l e s m args below meth c dC dI ac sk A ad0 n0 Qs E ad H locs ls N)
theorem v_iand {x y : Int32} (hd : decode cc pc = .ok (.iand, 1)) (kk : Vd own nm cc nL ret R Q mc ms k n (pc + 1) L (.int (x &&& y) :: st) h) : Vd own nm cc nL ret R Q mc ms k n pc L (.int y :: .int x :: st) h := by
  intro p l e s m args below meth c dC dI ac sk A ad0 n0 Qs E ad H locs ls N
  exact lv_iand E.1.1 E.1.2.1 hd (kk p l e s m args below meth c dC dI ac sk A ad0 n0 Qs E ad H locs ls N)
theorem v_ior {x y : Int32} (hd : decode cc pc = .ok (.ior, 1)) (kk : Vd own nm cc nL ret R Q mc ms k n (pc + 1) L (.int (x ||| y) :: st) h) : Vd own nm cc nL ret R Q mc ms k n pc L (.int y :: .int x :: st) h := by
  intro p l e s m args below meth c dC dI ac sk A ad0 n0 Qs E ad H locs ls N
  exact lv_ior E.1.1 E.1.2.1 hd (kk p l e s m args below meth c dC dI ac sk A ad0 n0 Qs E ad H locs ls N)
theorem v_ixor {x y : Int32} (hd : decode cc pc = .ok (.ixor, 1)) (kk : Vd own nm cc nL ret R Q mc ms k n (pc + 1) L (.int (x ^^^ y) :: st) h) : Vd own nm cc nL ret R Q mc ms k n pc L (.int y :: .int x :: st) h := by
  intro p l e s m args below meth c dC dI ac sk A ad0 n0 Qs E ad H locs ls N
  exact lv_ixor E.1.1 E.1.2.1 hd (kk p l e s m args below meth c dC dI ac sk A ad0 n0 Qs E ad H locs ls N)
theorem v_ishl {x y : Int32} (hd : decode cc pc = .ok (.ishl, 1)) (kk : Vd own nm cc nL ret R Q mc ms k n (pc + 1) L (.int (x <<< (y &&& 31)) :: st) h) : Vd own nm cc nL ret R Q mc ms k n pc L (.int y :: .int x :: st) h := by
  intro p l e s m args below meth c dC dI ac sk A ad0 n0 Qs E ad H locs ls N
  exact lv_ishl E.1.1 E.1.2.1 hd (kk p l e s m args below meth c dC dI ac sk A ad0 n0 Qs E ad H locs ls N)
theorem v_ishr {x y : Int32} (hd : decode cc pc = .ok (.ishr, 1)) (kk : Vd own nm cc nL ret R Q mc ms k n (pc + 1) L (.int (x >>> (y &&& 31)) :: st) h) : Vd own nm cc nL ret R Q mc ms k n pc L (.int y :: .int x :: st) h := by
  intro p l e s m args below meth c dC dI ac sk A ad0 n0 Qs E ad H locs ls N
  exact lv_ishr E.1.1 E.1.2.1 hd (kk p l e s m args below meth c dC dI ac sk A ad0 n0 Qs E ad H locs ls N)
theorem v_idiv {x y : Int32} (hd : decode cc pc = .ok (.idiv, 1)) (hne : ¬ y = 0) (kk : Vd own nm cc nL ret R Q mc ms k n (pc + 1) L (.int (x / y) :: st) h) : Vd own nm cc nL ret R Q mc ms k n pc L (.int y :: .int x :: st) h := by
  intro p l e s m args below meth c dC dI ac sk A ad0 n0 Qs E ad H locs ls N
  exact lv_idiv E.1.1 E.1.2.1 hd hne (kk p l e s m args below meth c dC dI ac sk A ad0 n0 Qs E ad H locs ls N)
theorem v_irem {x y : Int32} (hd : decode cc pc = .ok (.irem, 1)) (hne : ¬ y = 0) (kk : Vd own nm cc nL ret R Q mc ms k n (pc + 1) L (.int (x - x / y * y) :: st) h) : Vd own nm cc nL ret R Q mc ms k n pc L (.int y :: .int x :: st) h := by
  intro p l e s m args below meth c dC dI ac sk A ad0 n0 Qs E ad H locs ls N
  exact lv_irem E.1.1 E.1.2.1 hd hne (kk p l e s m args below meth c dC dI ac sk A ad0 n0 Qs E ad H locs ls N)
theorem v_ladd {x y : Int64} (hd : decode cc pc = .ok (.ladd, 1)) (kk : Vd own nm cc nL ret R Q mc ms k n (pc + 1) L (.long (x + y) :: st) h) : Vd own nm cc nL ret R Q mc ms k n pc L (.long y :: .long x :: st) h := by
  intro p l e s m args below meth c dC dI ac sk A ad0 n0 Qs E ad H locs ls N
  exact lv_ladd E.1.1 E.1.2.1 hd (kk p l e s m args below meth c dC dI ac sk A ad0 n0 Qs E ad H locs ls N)
theorem v_lsub {x y : Int64} (hd : decode cc pc = .ok (.lsub, 1)) (kk : Vd own nm cc nL ret R Q mc ms k n (pc + 1) L (.long (x - y) :: st) h) : Vd own nm cc nL ret R Q mc ms k n pc L (.long y :: .long x :: st) h := by
  intro p l e s m args below meth c dC dI ac sk A ad0 n0 Qs E ad H locs ls N
  exact lv_lsub E.1.1 E.1.2.1 hd (kk p l e s m args below meth c dC dI ac sk A ad0 n0 Qs E ad H locs ls N)
theorem v_lmul {x y : Int64} (hd : decode cc pc = .ok (.lmul, 1)) (kk : Vd own nm cc nL ret R Q mc ms k n (pc + 1) L (.long (x * y) :: st) h) : Vd own nm cc nL ret R Q mc ms k n pc L (.long y :: .long x :: st) h := by
  intro p l e s m args below meth c dC dI ac sk A ad0 n0 Qs E ad H locs ls N
  exact lv_lmul E.1.1 E.1.2.1 hd (kk p l e s m args below meth c dC dI ac sk A ad0 n0 Qs E ad H locs ls N)
theorem v_ldiv {x y : Int64} (hd : decode cc pc = .ok (.ldiv, 1)) (hne : ¬ y = 0) (kk : Vd own nm cc nL ret R Q mc ms k n (pc + 1) L (.long (x / y) :: st) h) : Vd own nm cc nL ret R Q mc ms k n pc L (.long y :: .long x :: st) h := by
  intro p l e s m args below meth c dC dI ac sk A ad0 n0 Qs E ad H locs ls N
  exact lv_ldiv E.1.1 E.1.2.1 hd hne (kk p l e s m args below meth c dC dI ac sk A ad0 n0 Qs E ad H locs ls N)
theorem v_lrem {x y : Int64} (hd : decode cc pc = .ok (.lrem, 1)) (hne : ¬ y = 0) (kk : Vd own nm cc nL ret R Q mc ms k n (pc + 1) L (.long (x - x / y * y) :: st) h) : Vd own nm cc nL ret R Q mc ms k n pc L (.long y :: .long x :: st) h := by
  intro p l e s m args below meth c dC dI ac sk A ad0 n0 Qs E ad H locs ls N
  exact lv_lrem E.1.1 E.1.2.1 hd hne (kk p l e s m args below meth c dC dI ac sk A ad0 n0 Qs E ad H locs ls N)
theorem v_lneg {x : Int64} (hd : decode cc pc = .ok (.lneg, 1)) (kk : Vd own nm cc nL ret R Q mc ms k n (pc + 1) L (.long (-x) :: st) h) : Vd own nm cc nL ret R Q mc ms k n pc L (.long x :: st) h := by
  intro p l e s m args below meth c dC dI ac sk A ad0 n0 Qs E ad H locs ls N
  exact lv_lneg E.1.1 E.1.2.1 hd (kk p l e s m args below meth c dC dI ac sk A ad0 n0 Qs E ad H locs ls N)
theorem v_ineg {x : Int32} (hd : decode cc pc = .ok (.ineg, 1)) (kk : Vd own nm cc nL ret R Q mc ms k n (pc + 1) L (.int (-x) :: st) h) : Vd own nm cc nL ret R Q mc ms k n pc L (.int x :: st) h := by
  intro p l e s m args below meth c dC dI ac sk A ad0 n0 Qs E ad H locs ls N
  exact lv_ineg E.1.1 E.1.2.1 hd (kk p l e s m args below meth c dC dI ac sk A ad0 n0 Qs E ad H locs ls N)
theorem v_lcmp {x y : Int64} (hd : decode cc pc = .ok (.lcmp, 1)) (kk : Vd own nm cc nL ret R Q mc ms k n (pc + 1) L (.int (lg_cmp x y) :: st) h) : Vd own nm cc nL ret R Q mc ms k n pc L (.long y :: .long x :: st) h := by
  intro p l e s m args below meth c dC dI ac sk A ad0 n0 Qs E ad H locs ls N
  exact W.lcmp E.1.1 E.1.2.1 hd (kk p l e s m args below meth c dC dI ac sk A ad0 n0 Qs E ad H locs ls N)
theorem v_i2l {x : Int32} (hd : decode cc pc = .ok (.i2l, 1)) (kk : Vd own nm cc nL ret R Q mc ms k n (pc + 1) L (.long x.toInt64 :: st) h) : Vd own nm cc nL ret R Q mc ms k n pc L (.int x :: st) h := by
  intro p l e s m args below meth c dC dI ac sk A ad0 n0 Qs E ad H locs ls N
  exact lv_i2l E.1.1 E.1.2.1 hd rfl (kk p l e s m args below meth c dC dI ac sk A ad0 n0 Qs E ad H locs ls N)
theorem v_i2b {x : Int32} (hd : decode cc pc = .ok (.i2b, 1)) (kk : Vd own nm cc nL ret R Q mc ms k n (pc + 1) L (.int x.toInt8.toInt32 :: st) h) : Vd own nm cc nL ret R Q mc ms k n pc L (.int x :: st) h := by
  intro p l e s m args below meth c dC dI ac sk A ad0 n0 Qs E ad H locs ls N
  exact lv_i2b E.1.1 E.1.2.1 hd rfl (kk p l e s m args below meth c dC dI ac sk A ad0 n0 Qs E ad H locs ls N)
theorem v_i2s {x : Int32} (hd : decode cc pc = .ok (.i2s, 1)) (kk : Vd own nm cc nL ret R Q mc ms k n (pc + 1) L (.int x.toInt16.toInt32 :: st) h) : Vd own nm cc nL ret R Q mc ms k n pc L (.int x :: st) h := by
  intro p l e s m args below meth c dC dI ac sk A ad0 n0 Qs E ad H locs ls N
  exact lv_i2s E.1.1 E.1.2.1 hd rfl (kk p l e s m args below meth c dC dI ac sk A ad0 n0 Qs E ad H locs ls N)
theorem v_iushr {x y : Int32} (hd : decode cc pc = .ok (.iushr, 1)) (kk : Vd own nm cc nL ret R Q mc ms k n (pc + 1) L (.int (x.toUInt32 >>> (y.toUInt32 &&& Int32.toUInt32 31)).toInt32 :: st) h) : Vd own nm cc nL ret R Q mc ms k n pc L (.int y :: .int x :: st) h := by
  intro p l e s m args below meth c dC dI ac sk A ad0 n0 Qs E ad H locs ls N
  exact lv_iushr E.1.1 E.1.2.1 hd rfl (kk p l e s m args below meth c dC dI ac sk A ad0 n0 Qs E ad H locs ls N)
theorem v_dup {v : Value} (hd : decode cc pc = .ok (.dup, 1)) (hc : v.category = 1) (kk : Vd own nm cc nL ret R Q mc ms k n (pc + 1) L (v :: v :: st) h) : Vd own nm cc nL ret R Q mc ms k n pc L (v :: st) h := by
  intro p l e s m args below meth c dC dI ac sk A ad0 n0 Qs E ad H locs ls N
  exact lv_dup E.1.1 E.1.2.1 hd ((xv_cat ad sk v).trans hc) (kk p l e s m args below meth c dC dI ac sk A ad0 n0 Qs E ad H locs ls N)
theorem v_pop {v : Value} (hd : decode cc pc = .ok (.pop, 1)) (hc : v.category = 1) (kk : Vd own nm cc nL ret R Q mc ms k n (pc + 1) L (st) h) : Vd own nm cc nL ret R Q mc ms k n pc L (v :: st) h := by
  intro p l e s m args below meth c dC dI ac sk A ad0 n0 Qs E ad H locs ls N
  exact lv_pop E.1.1 E.1.2.1 hd ((xv_cat ad sk v).trans hc) (kk p l e s m args below meth c dC dI ac sk A ad0 n0 Qs E ad H locs ls N)
theorem v_dup2 {v w : Value} (hd : decode cc pc = .ok (.dup2, 1)) (hc : v.category = 1) (hc2 : w.category = 1) (kk : Vd own nm cc nL ret R Q mc ms k n (pc + 1) L (v :: w :: v :: w :: st) h) : Vd own nm cc nL ret R Q mc ms k n pc L (v :: w :: st) h := by
  intro p l e s m args below meth c dC dI ac sk A ad0 n0 Qs E ad H locs ls N
  exact lv_dup2_11 E.1.1 E.1.2.1 hd ((xv_cat ad sk v).trans hc) ((xv_cat ad sk w).trans hc2) (kk p l e s m args below meth c dC dI ac sk A ad0 n0 Qs E ad H locs ls N)
theorem v_if_eq {x : Int32} {off : Int} {tgt : Nat} (hd : decode cc pc = .ok (.ifCond .eq off, 3)) (ht : (pc : Int) + off = (tgt : Int)) (kt : x = 0 → Vd own nm cc nL ret R Q mc ms k n tgt L st h) (kf : ¬ x = 0 → Vd own nm cc nL ret R Q mc ms k n (pc + 3) L st h) : Vd own nm cc nL ret R Q mc ms k n pc L (.int x :: st) h := by
  intro p l e s m args below meth c dC dI ac sk A ad0 n0 Qs E ad H locs ls N
  exact lv_if_eq E.1.1 E.1.2.1 hd ht (fun q => kt q p l e s m args below meth c dC dI ac sk A ad0 n0 Qs E ad H locs ls N) (fun q => kf q p l e s m args below meth c dC dI ac sk A ad0 n0 Qs E ad H locs ls N)
theorem v_icmp_eq {x y : Int32} {off : Int} {tgt : Nat} (hd : decode cc pc = .ok (.if_icmp .eq off, 3)) (ht : (pc : Int) + off = (tgt : Int)) (kt : x = y → Vd own nm cc nL ret R Q mc ms k n tgt L st h) (kf : ¬ x = y → Vd own nm cc nL ret R Q mc ms k n (pc + 3) L st h) : Vd own nm cc nL ret R Q mc ms k n pc L (.int y :: .int x :: st) h := by
  intro p l e s m args below meth c dC dI ac sk A ad0 n0 Qs E ad H locs ls N
  exact lv_icmp_eq E.1.1 E.1.2.1 hd ht (fun q => kt q p l e s m args below meth c dC dI ac sk A ad0 n0 Qs E ad H locs ls N) (fun q => kf q p l e s m args below meth c dC dI ac sk A ad0 n0 Qs E ad H locs ls N)
theorem v_if_ne {x : Int32} {off : Int} {tgt : Nat} (hd : decode cc pc = .ok (.ifCond .ne off, 3)) (ht : (pc : Int) + off = (tgt : Int)) (kt : ¬ x = 0 → Vd own nm cc nL ret R Q mc ms k n tgt L st h) (kf : x = 0 → Vd own nm cc nL ret R Q mc ms k n (pc + 3) L st h) : Vd own nm cc nL ret R Q mc ms k n pc L (.int x :: st) h := by
  intro p l e s m args below meth c dC dI ac sk A ad0 n0 Qs E ad H locs ls N
  exact lv_if_ne E.1.1 E.1.2.1 hd ht (fun q => kt q p l e s m args below meth c dC dI ac sk A ad0 n0 Qs E ad H locs ls N) (fun q => kf q p l e s m args below meth c dC dI ac sk A ad0 n0 Qs E ad H locs ls N)
theorem v_icmp_ne {x y : Int32} {off : Int} {tgt : Nat} (hd : decode cc pc = .ok (.if_icmp .ne off, 3)) (ht : (pc : Int) + off = (tgt : Int)) (kt : ¬ x = y → Vd own nm cc nL ret R Q mc ms k n tgt L st h) (kf : x = y → Vd own nm cc nL ret R Q mc ms k n (pc + 3) L st h) : Vd own nm cc nL ret R Q mc ms k n pc L (.int y :: .int x :: st) h := by
  intro p l e s m args below meth c dC dI ac sk A ad0 n0 Qs E ad H locs ls N
  exact lv_icmp_ne E.1.1 E.1.2.1 hd ht (fun q => kt q p l e s m args below meth c dC dI ac sk A ad0 n0 Qs E ad H locs ls N) (fun q => kf q p l e s m args below meth c dC dI ac sk A ad0 n0 Qs E ad H locs ls N)
theorem v_if_lt {x : Int32} {off : Int} {tgt : Nat} (hd : decode cc pc = .ok (.ifCond .lt off, 3)) (ht : (pc : Int) + off = (tgt : Int)) (kt : x < 0 → Vd own nm cc nL ret R Q mc ms k n tgt L st h) (kf : ¬ x < 0 → Vd own nm cc nL ret R Q mc ms k n (pc + 3) L st h) : Vd own nm cc nL ret R Q mc ms k n pc L (.int x :: st) h := by
  intro p l e s m args below meth c dC dI ac sk A ad0 n0 Qs E ad H locs ls N
  exact lv_if_lt E.1.1 E.1.2.1 hd ht (fun q => kt q p l e s m args below meth c dC dI ac sk A ad0 n0 Qs E ad H locs ls N) (fun q => kf q p l e s m args below meth c dC dI ac sk A ad0 n0 Qs E ad H locs ls N)
theorem v_icmp_lt {x y : Int32} {off : Int} {tgt : Nat} (hd : decode cc pc = .ok (.if_icmp .lt off, 3)) (ht : (pc : Int) + off = (tgt : Int)) (kt : x < y → Vd own nm cc nL ret R Q mc ms k n tgt L st h) (kf : ¬ x < y → Vd own nm cc nL ret R Q mc ms k n (pc + 3) L st h) : Vd own nm cc nL ret R Q mc ms k n pc L (.int y :: .int x :: st) h := by
  intro p l e s m args below meth c dC dI ac sk A ad0 n0 Qs E ad H locs ls N
  exact lv_icmp_lt E.1.1 E.1.2.1 hd ht (fun q => kt q p l e s m args below meth c dC dI ac sk A ad0 n0 Qs E ad H locs ls N) (fun q => kf q p l e s m args below meth c dC dI ac sk A ad0 n0 Qs E ad H locs ls N)
theorem v_if_ge {x : Int32} {off : Int} {tgt : Nat} (hd : decode cc pc = .ok (.ifCond .ge off, 3)) (ht : (pc : Int) + off = (tgt : Int)) (kt : 0 ≤ x → Vd own nm cc nL ret R Q mc ms k n tgt L st h) (kf : ¬ 0 ≤ x → Vd own nm cc nL ret R Q mc ms k n (pc + 3) L st h) : Vd own nm cc nL ret R Q mc ms k n pc L (.int x :: st) h := by
  intro p l e s m args below meth c dC dI ac sk A ad0 n0 Qs E ad H locs ls N
  exact lv_if_ge E.1.1 E.1.2.1 hd ht (fun q => kt q p l e s m args below meth c dC dI ac sk A ad0 n0 Qs E ad H locs ls N) (fun q => kf q p l e s m args below meth c dC dI ac sk A ad0 n0 Qs E ad H locs ls N)
theorem v_icmp_ge {x y : Int32} {off : Int} {tgt : Nat} (hd : decode cc pc = .ok (.if_icmp .ge off, 3)) (ht : (pc : Int) + off = (tgt : Int)) (kt : y ≤ x → Vd own nm cc nL ret R Q mc ms k n tgt L st h) (kf : ¬ y ≤ x → Vd own nm cc nL ret R Q mc ms k n (pc + 3) L st h) : Vd own nm cc nL ret R Q mc ms k n pc L (.int y :: .int x :: st) h := by
  intro p l e s m args below meth c dC dI ac sk A ad0 n0 Qs E ad H locs ls N
  exact lv_icmp_ge E.1.1 E.1.2.1 hd ht (fun q => kt q p l e s m args below meth c dC dI ac sk A ad0 n0 Qs E ad H locs ls N) (fun q => kf q p l e s m args below meth c dC dI ac sk A ad0 n0 Qs E ad H locs ls N)
theorem v_if_gt {x : Int32} {off : Int} {tgt : Nat} (hd : decode cc pc = .ok (.ifCond .gt off, 3)) (ht : (pc : Int) + off = (tgt : Int)) (kt : 0 < x → Vd own nm cc nL ret R Q mc ms k n tgt L st h) (kf : ¬ 0 < x → Vd own nm cc nL ret R Q mc ms k n (pc + 3) L st h) : Vd own nm cc nL ret R Q mc ms k n pc L (.int x :: st) h := by
  intro p l e s m args below meth c dC dI ac sk A ad0 n0 Qs E ad H locs ls N
  exact lv_if_gt E.1.1 E.1.2.1 hd ht (fun q => kt q p l e s m args below meth c dC dI ac sk A ad0 n0 Qs E ad H locs ls N) (fun q => kf q p l e s m args below meth c dC dI ac sk A ad0 n0 Qs E ad H locs ls N)
theorem v_icmp_gt {x y : Int32} {off : Int} {tgt : Nat} (hd : decode cc pc = .ok (.if_icmp .gt off, 3)) (ht : (pc : Int) + off = (tgt : Int)) (kt : y < x → Vd own nm cc nL ret R Q mc ms k n tgt L st h) (kf : ¬ y < x → Vd own nm cc nL ret R Q mc ms k n (pc + 3) L st h) : Vd own nm cc nL ret R Q mc ms k n pc L (.int y :: .int x :: st) h := by
  intro p l e s m args below meth c dC dI ac sk A ad0 n0 Qs E ad H locs ls N
  exact lv_icmp_gt E.1.1 E.1.2.1 hd ht (fun q => kt q p l e s m args below meth c dC dI ac sk A ad0 n0 Qs E ad H locs ls N) (fun q => kf q p l e s m args below meth c dC dI ac sk A ad0 n0 Qs E ad H locs ls N)
theorem v_if_le {x : Int32} {off : Int} {tgt : Nat} (hd : decode cc pc = .ok (.ifCond .le off, 3)) (ht : (pc : Int) + off = (tgt : Int)) (kt : x ≤ 0 → Vd own nm cc nL ret R Q mc ms k n tgt L st h) (kf : ¬ x ≤ 0 → Vd own nm cc nL ret R Q mc ms k n (pc + 3) L st h) : Vd own nm cc nL ret R Q mc ms k n pc L (.int x :: st) h := by
  intro p l e s m args below meth c dC dI ac sk A ad0 n0 Qs E ad H locs ls N
  exact lv_if_le E.1.1 E.1.2.1 hd ht (fun q => kt q p l e s m args below meth c dC dI ac sk A ad0 n0 Qs E ad H locs ls N) (fun q => kf q p l e s m args below meth c dC dI ac sk A ad0 n0 Qs E ad H locs ls N)
theorem v_icmp_le {x y : Int32} {off : Int} {tgt : Nat} (hd : decode cc pc = .ok (.if_icmp .le off, 3)) (ht : (pc : Int) + off = (tgt : Int)) (kt : x ≤ y → Vd own nm cc nL ret R Q mc ms k n tgt L st h) (kf : ¬ x ≤ y → Vd own nm cc nL ret R Q mc ms k n (pc + 3) L st h) : Vd own nm cc nL ret R Q mc ms k n pc L (.int y :: .int x :: st) h := by
  intro p l e s m args below meth c dC dI ac sk A ad0 n0 Qs E ad H locs ls N
  exact lv_icmp_le E.1.1 E.1.2.1 hd ht (fun q => kt q p l e s m args below meth c dC dI ac sk A ad0 n0 Qs E ad H locs ls N) (fun q => kf q p l e s m args below meth c dC dI ac sk A ad0 n0 Qs E ad H locs ls N)
theorem v_goto {off : Int} {tgt : Nat} (hd : decode cc pc = .ok (.goto off, 3)) (ht : (pc : Int) + off = (tgt : Int)) (kk : Vd own nm cc nL ret R Q mc ms k n tgt L st h) : Vd own nm cc nL ret R Q mc ms k n pc L st h := by
  intro p l e s m args below meth c dC dI ac sk A ad0 n0 Qs E ad H locs ls N
  exact lv_goto E.1.1 E.1.2.1 hd ht (kk p l e s m args below meth c dC dI ac sk A ad0 n0 Qs E ad H locs ls N)
theorem v_tOut {dflt lo hi : Int} {offs : Array Int} {len : Nat} {x : Int32} {tgt : Nat} (hd : decode cc pc = .ok (.tableswitch dflt lo hi offs, len)) (hx : x.toInt < lo ∨ hi < x.toInt) (ht : (pc : Int) + dflt = (tgt : Int)) (kk : Vd own nm cc nL ret R Q mc ms k n tgt L st h) : Vd own nm cc nL ret R Q mc ms k n pc L (.int x :: st) h := by
  intro p l e s m args below meth c dC dI ac sk A ad0 n0 Qs E ad H locs ls N
  exact lv_tableOut E.1.1 E.1.2.1 hd hx ht (kk p l e s m args below meth c dC dI ac sk A ad0 n0 Qs E ad H locs ls N)
theorem v_tIn {dflt lo hi : Int} {offs : Array Int} {len : Nat} {x : Int32} (j : Int32) {off : Int} {tgt : Nat} (hd : decode cc pc = .ok (.tableswitch dflt lo hi offs, len)) (hx : x = j) (h1 : ¬ j.toInt < lo) (h2 : ¬ hi < j.toInt) (ho : offs[(j.toInt - lo).toNat]? = some off) (ht : (pc : Int) + off = (tgt : Int)) (kk : Vd own nm cc nL ret R Q mc ms k n tgt L st h) : Vd own nm cc nL ret R Q mc ms k n pc L (.int x :: st) h := by
  subst hx
  intro p l e s m args below meth c dC dI ac sk A ad0 n0 Qs E ad H locs ls N
  exact lv_tableIn E.1.1 E.1.2.1 hd h1 h2 ho ht (kk p l e s m args below meth c dC dI ac sk A ad0 n0 Qs E ad H locs ls N)
theorem v_look {dflt : Int} {ps : Array (Int × Int)} {len : Nat} {x : Int32} {off : Int} {tgt : Nat} (hd : decode cc pc = .ok (.lookupswitch dflt ps, len)) (hp : (ps.toList.zip (ps.toList.drop 1)).all (fun (a, next) => a.1 < next.1) = true) (ho : Op.lookupswitch.offset ps.toList dflt x.toInt = off) (ht : (pc : Int) + off = (tgt : Int)) (kk : Vd own nm cc nL ret R Q mc ms k n tgt L st h) : Vd own nm cc nL ret R Q mc ms k n pc L (.int x :: st) h := by
  intro p l e s m args below meth c dC dI ac sk A ad0 n0 Qs E ad H locs ls N
  exact lv_lookup E.1.1 E.1.2.1 hd hp ho ht (kk p l e s m args below meth c dC dI ac sk A ad0 n0 Qs E ad H locs ls N)
theorem v_ldc {i : Nat} {v : Int32} (hd : decode cc pc = .ok (.ldc i, 2)) (hw : Cond.constant own i v ∈ gw) (kk : Vd own nm cc nL ret R Q mc ms k n (pc + 2) L (.int v :: st) h) : Vd own nm cc nL ret R Q mc ms k n pc L (st) h := by
  intro p l e s m args below meth c dC dI ac sk A ad0 n0 Qs E ad H locs ls N
  exact lv_ldc E.1.1 E.1.2.1 E.1.2.2.2.2.1 (E.1.2.2.2.2.2.1 _ hw) hd (kk p l e s m args below meth c dC dI ac sk A ad0 n0 Qs E ad H locs ls N)
theorem v_ldc2 {i : Nat} {v : Int64} (hd : decode cc pc = .ok (.ldc2_w i, 3)) (hw : Cond.constantLong own i v ∈ gw) (kk : Vd own nm cc nL ret R Q mc ms k n (pc + 3) L (.long v :: st) h) : Vd own nm cc nL ret R Q mc ms k n pc L (st) h := by
  intro p l e s m args below meth c dC dI ac sk A ad0 n0 Qs E ad H locs ls N
  exact lv_ldc2 E.1.1 E.1.2.1 E.1.2.2.2.2.1 (E.1.2.2.2.2.2.1 _ hw) hd (kk p l e s m args below meth c dC dI ac sk A ad0 n0 Qs E ad H locs ls N)
theorem v_topi {x : Int32} (kk : ∀ y : Int32, y = x → Vd own nm cc nL ret R Q mc ms k n pc L (.int y :: st) h) : Vd own nm cc nL ret R Q mc ms k n pc L (.int x :: st) h := kk x rfl
theorem v_topl {x : Int64} (kk : ∀ y : Int64, y = x → Vd own nm cc nL ret R Q mc ms k n pc L (.long y :: st) h) : Vd own nm cc nL ret R Q mc ms k n pc L (.long x :: st) h := kk x rfl
theorem v_loc {L2 : List (Nat × Value)} (ks : List Nat) (hl : lv_pick L ks = L2) (kk : Vd own nm cc nL ret R Q mc ms k n pc L2 st h) : Vd own nm cc nL ret R Q mc ms k n pc L st h := by
  intro p l e s m args below meth c dC dI ac sk A ad0 n0 Qs E ad H locs ls N
  refine kk p l e s m args below meth c dC dI ac sk A ad0 n0 Qs E ad H locs ls (N.loc (fun q hq => ?_))
  rw [← hl] at hq
  obtain ⟨i, -, hi⟩ := List.mem_filterMap.mp hq
  exact List.mem_of_getElem? hi
theorem v_heap {h2 : ab_H} (he : h = h2) (kk : Vd own nm cc nL ret R Q mc ms k n pc L st h2) : Vd own nm cc nL ret R Q mc ms k n pc L st h := he ▸ kk
end VROWS
end
section

section VHEAP
variable {own nm : String} {cc : ByteArray} {nL : Nat} {ret : Option FieldType} {R : Room} {Q : Option Value → ab_H → Prop} {mc ms k n pc : Nat} {L : List (Nat × Value)} {st : List Value} {h : ab_H}
/-- a field of a class, as a link of a class names it -/
def FL (own : String) (idx ci k : Nat) (ty : FieldType) (fin : Bool) : Prop := ∃ (C : String) (T : u_T) (N : Nat) (tyf : Nat → FieldType), vwCl[ci]? = some (C, T, N) ∧ (∀ w ∈ u_ws C T N, w ∈ gw) ∧ k < N ∧ Cond.fieldLink own idx C (T k).2.1 (T k).2.2.1 ∈ gw ∧ (T k).1 = C ∧ (T k).2.2.2 = fin ∧ parseFieldDescriptor (T k).2.2.1 = some ty ∧ (∀ k, k < N → parseFieldDescriptor (T k).2.2.1 = some (tyf k)) ∧ (∀ a, a < N → ∀ b, b < N → a ≠ b → (T a).2.1 ≠ (T b).2.1)
theorem Nw.upd {dC : Nat → ClassId} {dI : Nat → Nat → Nat} {ac : Nat → ClassId} {sk : Nat → Option Nat} {A : Nat → Prop} {ad0 : Nat → Nat} {n0 : Nat} {s : State} {nL : Nat} {L : List (Nat × Value)} {h : ab_H} {ad : Nat → Nat} {H H1 : Heap} {locs locs1 : List Loc} {ls : Array Slot} {b : Nat} {c : ab_C} (N : Nw dC dI ac sk A ad0 n0 s nL L h ad H locs ls) (hP : va_P (dC, dI) vwCl ((xw ad sk ac h).set b (ad b, xc ad sk ac c)) H1) (hD : va_D A ((xw ad sk ac h).set b (ad b, xc ad sk ac c))) (hS : va_S A s.heap H1 locs1) : Nw dC dI ac sk A ad0 n0 s nL L (h.set b c) ad H1 locs1 ls := by
  rw [xw_set] at hP hD
  exact ⟨⟨by rw [List.length_set]; exact N.1.1, N.1.2.1, by rw [List.length_set]; exact N.1.2.2⟩, hP, hD, hS, N.2.2.2.2⟩
theorem v_get {idx ci j b : Nat} {ty : FieldType} {fin : Bool} {fs : List Value} {v : Value} (hd : decode cc pc = .ok (.getfield idx, 3)) (f : FL own idx ci j ty fin) (hh : h[b]? = some (aO ci fs)) (hv : fs[j]? = some v) (kk : Vd own nm cc nL ret R Q mc ms k n (pc + 3) L (v :: st) h) : Vd own nm cc nL ret R Q mc ms k n pc L (.ref b :: st) h := by
  intro p l e s m args below meth c dC dI ac sk A ad0 n0 Qs E ad H locs ls N
  obtain ⟨C, T, NN, tyf, f1, f2, f3, f4, f5, f6, f7, f8, f9⟩ := f
  exact va_get (ref := C) E.1.1 E.1.2.1 E.1.2.2.2.2.2.1 f2 E.1.2.2.2.2.1 E.2.2.2.1 N.2.1 b (xw_of hh) f1 j f3 (E.1.2.2.2.2.2.1 _ f4) (by rw [f5]; exact fun _ h9 => h9) (by rw [List.getElem?_map, hv]; rfl) hd (kk p l e s m args below meth c dC dI ac sk A ad0 n0 Qs E ad H locs ls N)
theorem v_put {idx ci j b : Nat} {ty : FieldType} {fs : List Value} {v : Value} (hd : decode cc pc = .ok (.putfield idx, 3)) (f : FL own idx ci j ty false) (hh : h[b]? = some (aO ci fs)) (hn : ∀ ad sk, narrow ty (xv ad sk v) = xv ad sk v) (hf : ∀ ad sk, fits ty (xv ad sk v) = true) (hl : j < fs.length) (kk : Vd own nm cc nL ret R Q mc ms k n (pc + 3) L st (h.set b (aO ci (fs.set j v)))) : Vd own nm cc nL ret R Q mc ms k n pc L (v :: .ref b :: st) h := by
  intro p l e s m args below meth c dC dI ac sk A ad0 n0 Qs E ad H locs ls N
  obtain ⟨C, T, NN, tyf, f1, f2, f3, f4, f5, f6, f7, f8, f9⟩ := f
  refine va_put (ref := C) E.1.1 E.1.2.1 E.1.2.2.2.2.2.1 f2 tyf f8 f9 E.1.2.2.2.2.1 E.2.2.2.1 N.2.1 N.2.2.1 N.2.2.2.1 b (xw_of hh) f1 j f3 (E.1.2.2.2.2.2.1 _ f4) (by rw [f5]; exact fun _ h9 => h9) f6 f7 (hn ad sk) (hf ad sk) (by rw [List.length_map]; exact hl) hd (fun H1 locs1 hP hD hS => ?_)
  rw [← List.map_set] at hP hD
  exact kk p l e s m args below meth c dC dI ac sk A ad0 n0 Qs E ad H1 locs1 ls (N.upd (c := aO ci (fs.set j v)) hP hD hS)
theorem v_putF {idx ci j b : Nat} {ty : FieldType} {fs : List Value} {v : Value} (hd : decode cc pc = .ok (.putfield idx, 3)) (f : FL own idx ci j ty true) (hown : (vwCl[ci]?).map (fun q => q.1) = some own) (hnm : nm = "<init>") (hh : h[b]? = some (aO ci fs)) (hn : ∀ ad sk, narrow ty (xv ad sk v) = xv ad sk v) (hf : ∀ ad sk, fits ty (xv ad sk v) = true) (hl : j < fs.length) (kk : Vd own nm cc nL ret R Q mc ms k n (pc + 3) L st (h.set b (aO ci (fs.set j v)))) : Vd own nm cc nL ret R Q mc ms k n pc L (v :: .ref b :: st) h := by
  intro p l e s m args below meth c dC dI ac sk A ad0 n0 Qs E ad H locs ls N
  obtain ⟨C, T, NN, tyf, f1, f2, f3, f4, f5, f6, f7, f8, f9⟩ := f
  have ho : C = own := by rw [f1] at hown; exact Option.some.inj hown
  refine va_putF (ref := C) E.1.1 E.1.2.1 E.1.2.2.2.2.2.1 f2 tyf f8 f9 E.1.2.2.2.2.1 E.2.2.2.1 N.2.1 N.2.2.1 N.2.2.2.1 b (xw_of hh) f1 j f3 (E.1.2.2.2.2.2.1 _ f4) (by rw [f5]; exact fun _ h9 => h9) f6 (E.1.2.2.2.2.2.2.2.trans hnm) (f5.trans ho) f7 (hn ad sk) (hf ad sk) (by rw [List.length_map]; exact hl) hd (fun H1 locs1 hP hD hS => ?_)
  rw [← List.map_set] at hP hD
  exact kk p l e s m args below meth c dC dI ac sk A ad0 n0 Qs E ad H1 locs1 ls (N.upd (c := aO ci (fs.set j v)) hP hD hS)
theorem v_iald {b m0 : Nat} {f : Nat → Int32} {i : Int32} (hd : decode cc pc = .ok (.iaload, 1)) (hh : h[b]? = some (aI 0 m0 f)) (hi : vp_in i m0) (kk : Vd own nm cc nL ret R Q mc ms k n (pc + 1) L (.int (f i.toNatClampNeg) :: st) h) : Vd own nm cc nL ret R Q mc ms k n pc L (.int i :: .ref b :: st) h := by
  intro p l e s m args below meth c dC dI ac sk A ad0 n0 Qs E ad H locs ls N
  exact va_iald E.1.1 E.1.2.1 E.2.2.2.1 N.2.1 b 0 (xw_of hh) rfl hi hd (kk p l e s m args below meth c dC dI ac sk A ad0 n0 Qs E ad H locs ls N)
theorem v_bald {b m0 : Nat} {f : Nat → Int32} {i : Int32} (hd : decode cc pc = .ok (.baload, 1)) (hh : h[b]? = some (aI 1 m0 f)) (hi : vp_in i m0) (kk : Vd own nm cc nL ret R Q mc ms k n (pc + 1) L (.int (f i.toNatClampNeg) :: st) h) : Vd own nm cc nL ret R Q mc ms k n pc L (.int i :: .ref b :: st) h := by
  intro p l e s m args below meth c dC dI ac sk A ad0 n0 Qs E ad H locs ls N
  exact va_bald E.1.1 E.1.2.1 E.2.2.2.1 N.2.1 b 1 (xw_of hh) rfl hi hd (kk p l e s m args below meth c dC dI ac sk A ad0 n0 Qs E ad H locs ls N)
theorem v_zald {b m0 : Nat} {f : Nat → Int32} {i : Int32} (hd : decode cc pc = .ok (.baload, 1)) (hh : h[b]? = some (aI 2 m0 f)) (hi : vp_in i m0) (kk : Vd own nm cc nL ret R Q mc ms k n (pc + 1) L (.int (f i.toNatClampNeg) :: st) h) : Vd own nm cc nL ret R Q mc ms k n pc L (.int i :: .ref b :: st) h := by
  intro p l e s m args below meth c dC dI ac sk A ad0 n0 Qs E ad H locs ls N
  exact va_zald E.1.1 E.1.2.1 E.2.2.2.1 N.2.1 b 2 (xw_of hh) rfl hi hd (kk p l e s m args below meth c dC dI ac sk A ad0 n0 Qs E ad H locs ls N)
theorem v_iast {b m0 : Nat} {f : Nat → Int32} {i x : Int32} (hd : decode cc pc = .ok (.iastore, 1)) (hh : h[b]? = some (aI 0 m0 f)) (hi : vp_in i m0) (kk : Vd own nm cc nL ret R Q mc ms k n (pc + 1) L st (h.set b (aI 0 m0 (upd f i.toNatClampNeg (x))))) : Vd own nm cc nL ret R Q mc ms k n pc L (.int x :: .int i :: .ref b :: st) h := by
  intro p l e s m args below meth c dC dI ac sk A ad0 n0 Qs E ad H locs ls N
  exact va_iast E.1.1 E.1.2.1 E.2.2.2.1 N.2.1 N.2.2.1 N.2.2.2.1 b 0 (xw_of hh) rfl hi hd (fun H1 locs1 hP hD hS => kk p l e s m args below meth c dC dI ac sk A ad0 n0 Qs E ad H1 locs1 ls (N.upd (c := aI 0 m0 (upd f i.toNatClampNeg (x))) hP hD hS))
theorem v_bast {b m0 : Nat} {f : Nat → Int32} {i x : Int32} (hd : decode cc pc = .ok (.bastore, 1)) (hh : h[b]? = some (aI 1 m0 f)) (hi : vp_in i m0) (kk : Vd own nm cc nL ret R Q mc ms k n (pc + 1) L st (h.set b (aI 1 m0 (upd f i.toNatClampNeg (vp_nar .byte x))))) : Vd own nm cc nL ret R Q mc ms k n pc L (.int x :: .int i :: .ref b :: st) h := by
  intro p l e s m args below meth c dC dI ac sk A ad0 n0 Qs E ad H locs ls N
  exact va_bast E.1.1 E.1.2.1 E.2.2.2.1 N.2.1 N.2.2.1 N.2.2.2.1 b 1 (xw_of hh) rfl hi hd (fun H1 locs1 hP hD hS => kk p l e s m args below meth c dC dI ac sk A ad0 n0 Qs E ad H1 locs1 ls (N.upd (c := aI 1 m0 (upd f i.toNatClampNeg (vp_nar .byte x))) hP hD hS))
theorem v_zast {b m0 : Nat} {f : Nat → Int32} {i x : Int32} (hd : decode cc pc = .ok (.bastore, 1)) (hh : h[b]? = some (aI 2 m0 f)) (hi : vp_in i m0) (kk : Vd own nm cc nL ret R Q mc ms k n (pc + 1) L st (h.set b (aI 2 m0 (upd f i.toNatClampNeg (vp_nar .boolean x))))) : Vd own nm cc nL ret R Q mc ms k n pc L (.int x :: .int i :: .ref b :: st) h := by
  intro p l e s m args below meth c dC dI ac sk A ad0 n0 Qs E ad H locs ls N
  exact va_zast E.1.1 E.1.2.1 E.2.2.2.1 N.2.1 N.2.2.1 N.2.2.2.1 b 2 (xw_of hh) rfl hi hd (fun H1 locs1 hP hD hS => kk p l e s m args below meth c dC dI ac sk A ad0 n0 Qs E ad H1 locs1 ls (N.upd (c := aI 2 m0 (upd f i.toNatClampNeg (vp_nar .boolean x))) hP hD hS))
theorem v_alen {b tc m0 : Nat} {f : Nat → Int32} {v : Int32} (hd : decode cc pc = .ok (.arraylength, 1)) (hh : h[b]? = some (aI tc m0 f)) (htc : tc < 5) (hv : Int32.ofNat m0 = v) (kk : Vd own nm cc nL ret R Q mc ms k n (pc + 1) L (.int v :: st) h) : Vd own nm cc nL ret R Q mc ms k n pc L (.ref b :: st) h := by
  intro p l e s m args below meth c dC dI ac sk A ad0 n0 Qs E ad H locs ls N
  obtain ⟨ty, hty⟩ : ∃ ty, (ab_ty ac)[tc]? = some (ac tc, ty) := by
    rcases (show tc = 0 ∨ tc = 1 ∨ tc = 2 ∨ tc = 3 ∨ tc = 4 by omega) with rfl | rfl | rfl | rfl | rfl <;> exact ⟨_, rfl⟩
  exact va_alen E.1.1 E.1.2.1 E.2.2.2.1 N.2.1 b tc (xw_of hh) hty hv hd (kk p l e s m args below meth c dC dI ac sk A ad0 n0 Qs E ad H locs ls N)
theorem v_aald {b tc r : Nat} {lr : List (Option Nat)} {i : Int32} (hd : decode cc pc = .ok (.aaload, 1)) (hh : h[b]? = some (aR tc lr)) (htc : tc = 3 ∨ tc = 4) (hi : vp_in i lr.length) (hr : lr.getD i.toNatClampNeg none = some r) (kk : Vd own nm cc nL ret R Q mc ms k n (pc + 1) L (.ref r :: st) h) : Vd own nm cc nL ret R Q mc ms k n pc L (.int i :: .ref b :: st) h := by
  intro p l e s m args below meth c dC dI ac sk A ad0 n0 Qs E ad H locs ls N
  obtain ⟨C, hty⟩ : ∃ C, (ab_ty ac)[tc]? = some (ac tc, .object C) := by
    rcases htc with rfl | rfl <;> exact ⟨_, rfl⟩
  refine va_aldq E.1.1 E.1.2.1 E.2.2.2.1 N.2.1 b tc (xw_of hh) hty hi hd ?_
  rw [hr]
  exact (kk p l e s m args below meth c dC dI ac sk A ad0 n0 Qs E ad H locs ls N)
theorem v_iret {x : Int32} {ty : FieldType} (hd : decode cc pc = .ok (.ireturn, 1)) (hr : ret = some ty) (hn : narrow ty (.int x) = .int x) (h1 : k ≤ mc) (h2 : n ≤ ms) (hq : Q (some (.int x)) h) : Vd own nm cc nL ret R Q mc ms k n pc L [.int x] h := by
  intro p l e s m args below meth c dC dI ac sk A ad0 n0 Qs E ad H locs ls N
  exact W.widen h1 h2 (E.2.2.2.2 ad H locs ls (some (.int x)) .ireturn h pc hq (Or.inr (Or.inl ⟨ty, x, hr, rfl, rfl, hn⟩)) hd (N.loc (fun _ hq => by cases hq)))
theorem v_lret {x : Int64} (hd : decode cc pc = .ok (.lreturn, 1)) (hr : ret = some .long) (h1 : k ≤ mc) (h2 : n ≤ ms) (hq : Q (some (.long x)) h) : Vd own nm cc nL ret R Q mc ms k n pc L [.long x] h := by
  intro p l e s m args below meth c dC dI ac sk A ad0 n0 Qs E ad H locs ls N
  exact W.widen h1 h2 (E.2.2.2.2 ad H locs ls (some (.long x)) .lreturn h pc hq (Or.inr (Or.inr (Or.inl ⟨hr, x, rfl, rfl⟩))) hd (N.loc (fun _ hq => by cases hq)))
theorem v_aret {x : Nat} {t : String} (hd : decode cc pc = .ok (.areturn, 1)) (hr : ret = some (.object t)) (h1 : k ≤ mc) (h2 : n ≤ ms) (hq : Q (some (.ref x)) h) : Vd own nm cc nL ret R Q mc ms k n pc L [.ref x] h := by
  intro p l e s m args below meth c dC dI ac sk A ad0 n0 Qs E ad H locs ls N
  exact W.widen h1 h2 (E.2.2.2.2 ad H locs ls (some (.ref x)) .areturn h pc hq (Or.inr (Or.inr (Or.inr ⟨t, x, hr, rfl, rfl⟩))) hd (N.loc (fun _ hq => by cases hq)))
theorem v_vret (hd : decode cc pc = .ok (.return_, 1)) (hr : ret = none) (h1 : k ≤ mc) (h2 : n ≤ ms) (hq : Q none h) : Vd own nm cc nL ret R Q mc ms k n pc L [] h := by
  intro p l e s m args below meth c dC dI ac sk A ad0 n0 Qs E ad H locs ls N
  exact W.widen h1 h2 (E.2.2.2.2 ad H locs ls none .return_ h pc hq (Or.inl ⟨hr, rfl, rfl⟩) hd (N.loc (fun _ hq => by cases hq)))
end VHEAP
/-! A METHOD'S CONTRACT over the abstract heap -/
def Pq (dC : Nat → ClassId) (dI : Nat → Nat → Nat) (ac : Nat → ClassId) (sk : Nat → Option Nat) (ad0 : Nat → Nat) (n0 : Nat) (A : Nat → Prop) (Q : Option Value → ab_H → Prop) : Array Value → State → Outcome → State → Prop := fun _ st oc t =>
  (∃ (v : Option Value) (h' : ab_H) (ad' : Nat → Nat), oc = .returned (v.map (xv ad' sk)) ∧ Q v h' ∧ (n0 ≤ h'.length ∧ (∀ j, j < n0 → ad' j = ad0 j) ∧ (h'.length = n0 → ad' = ad0)) ∧ va_P (dC, dI) vwCl (xw ad' sk ac h') t.heap ∧ va_D A (xw ad' sk ac h')) ∧ va_F A st t
def Mt (y : MethodName) (cc : ByteArray) (nL : Nat) (ret : Option FieldType) (R : Room) (as : List Value) (h : ab_H) (Q : Option Value → ab_H → Prop) : Prop :=
  ∀ (l : Launch) (dC : Nat → ClassId) (dI : Nat → Nat → Nat) (ac : Nat → ClassId) (sk : Nat → Option Nat) (ad : Nat → Nat) (sz : Nat), Met l y (.code y cc nL ret :: gw) R (va_Pc (as.map (xv ad sk)) (fun U => U.heap.size = sz ∧ va_P (dC, dI) vwCl (xw ad sk ac h) U.heap ∧ va_K (dC, dI) vwCl (ab_ty ac) U ∧ va_D (fun _ => True) (xw ad sk ac h) ∧ SX sk (va_A (xw ad sk ac h) sz) U U.heap)) (Pq dC dI ac sk ad h.length (va_A (xw ad sk ac h) sz) Q) R.cells R.slots (va_A (xw ad sk ac h) sz)
theorem lv_args_map (ad : Nat → Nat) (sk : Nat → Option Nat) : ∀ (as : List Value) (i : Nat), lv_args i (as.map (xv ad sk)) = (lv_args i as).map (fun q => (q.1, xv ad sk q.2)) := by
  intro as
  induction as with
  | nil => intro i; rfl
  | cons v t ih =>
    intro i
    simp only [List.map_cons, lv_args, xv_cat, ih]
theorem lg_sl_map (ad : Nat → Nat) (sk : Nat → Option Nat) : ∀ (as : List Value), (lg_sl (as.map (xv ad sk))).length = (lg_sl as).length := by
  intro as
  induction as with
  | nil => rfl
  | cons v t ih =>
    have h1 : ∀ w : Value, ((if w.category = 2 then [Slot.val w, Slot.second] else [Slot.val w]) : List Slot).length = if w.category = 2 then 2 else 1 := fun w => by split <;> rfl
    simp only [lg_sl, List.map_cons, List.flatMap_cons, List.length_append] at ih ⊢
    rw [ih, h1, h1, xv_cat]
set_option maxHeartbeats 4000000 in
theorem Mt.of {y : MethodName} {cc : ByteArray} {nL : Nat} {ret : Option FieldType} {R : Room} {as : List Value} {h : ab_H} {Q : Option Value → ab_H → Prop} (hy : plainName y.cls = true) (hn : (lg_sl as).length ≤ nL) (hV : Vd y.cls y.name cc nL ret R Q R.cells R.slots 0 0 0 (lv_args 0 as) [] h) : Mt y cc nL ret R as h Q := by
  intro l dC dI ac sk ad sz
  refine Met.ofW (cc := cc) (maxL := nL) (ret := ret) hy rfl ?_
  intro p e s m args below meth c s₁ B hml hv
  obtain ⟨rfl, hsz, hP, hK, hD0, hX⟩ := hv
  have hts : ∀ w ∈ gw, w.before (as.map (xv ad sk)).toArray s = true := fun w hw => atoms_spec (ws := Cond.code y cc nL ret :: gw) B.pre w (List.mem_cons_of_mem _ hw)
  subst hsz
  have hD := hD0.self (sz := s.heap.size)
  have hA : ∀ q : Nat, s.heap.size ≤ q → va_A (xw ad sk ac h) s.heap.size q := fun q h => Or.inr h
  have hS : va_S (va_A (xw ad sk ac h) s.heap.size) s.heap s.heap [] := va_S.rf
  have hl := lv_entry (as.map (xv ad sk)) (n := nL) (by rw [lg_sl_map]; exact hn)
  rw [lg_entry_eq]
  rw [lv_args_map] at hl
  have C : Cx y.cls y.name cc nL ret p s m (as.map (xv ad sk)).toArray meth c := ⟨B.exec, B.bytes, B.returns, hml, findClass_of_methodNamed B.named, hts, B.notSynchronized, (name_of_methodNamed B.named B.method).1⟩
  have hlocks := B.notSynchronized
  refine hV p l e s m _ below meth c dC dI ac sk (va_A (xw ad sk ac h) s.heap.size) ad h.length _ ⟨C, hA, hX, hK, ?_⟩ ad s.heap [] _ ⟨⟨Nat.le_refl _, fun _ _ => rfl, fun _ => rfl⟩, hP, hD, hS, hl⟩
  intro ad' H' locs' ls' v ins h' pcr hq hret hdec N
  have fin : ∀ t : State, t.heap = H' → s.WarmedH t.vm → Pq dC dI ac sk ad h.length (va_A (xw ad sk ac h) s.heap.size) Q (as.map (xv ad sk)).toArray s (.returned (v.map (xv ad' sk))) t := fun t ht _ => ⟨⟨v, h', ad', rfl, hq, N.1, by rw [ht]; exact N.2.1, N.2.2.1⟩, N.2.2.2.1.F ht⟩
  rcases hret with ⟨r1, rfl, rfl⟩ | ⟨ty, x, r1, rfl, rfl, r2⟩ | ⟨r1, x, rfl, rfl⟩ | ⟨t, x, r1, rfl, rfl⟩
  · exact W.vret B.exec B.bytes (B.returns.trans r1) fin N.2.2.2.1.2.2 hdec
  · exact W.zret B.exec B.bytes (B.returns.trans r1) r2 fin N.2.2.2.1.2.2 hdec
  · exact W.lret B.exec B.bytes (B.returns.trans r1) fin N.2.2.2.1.2.2 hdec
  · exact W.aret B.exec B.bytes (B.returns.trans r1) (Or.inl ⟨_, rfl⟩) (Or.inr ⟨_, rfl⟩) fin N.2.2.2.1.2.2 hdec
end
section

/-! CALLS: the callee's small heap lies in the caller's at the places rr -/
def rv (r : Nat → Nat) : Value → Value
  | .ref k => .ref (r k)
  | .retAddr i => .retAddr i
  | .int x => .int x
  | .long x => .long x
  | .float x => .float x
  | .double x => .double x
  | .null => .null
def rc (r : Nat → Nat) : ab_C → ab_C
  | .inl (t, n, f) => .inl (t, n, f)
  | .inr (.inl (t, l)) => .inr (.inl (t, l.map (fun o => o.map r)))
  | .inr (.inr (c, fs)) => .inr (.inr (c, fs.map (rv r)))
theorem xv_rv (ad : Nat → Nat) (sk : Nat → Option Nat) (r : Nat → Nat) (v : Value) : xv (fun i => ad (r i)) sk v = xv ad sk (rv r v) := by cases v <;> rfl
theorem xc_rc (ad : Nat → Nat) (sk : Nat → Option Nat) (r : Nat → Nat) (ac : Nat → ClassId) (c : ab_C) : xc (fun i => ad (r i)) sk ac c = xc ad sk ac (rc r c) := by
  rcases c with ⟨t, n, f⟩ | ⟨t, l⟩ | ⟨c, fs⟩
  · rfl
  · have e : (fun j => (l.getD j none).map (fun i => ad (r i))) = (fun j => ((l.map (fun o => o.map r)).getD j none).map ad) := by
      funext j
      simp only [List.getD_eq_getElem?_getD, List.getElem?_map]
      cases l[j]? with
      | none => rfl
      | some o => cases o <;> rfl
    simp only [xc, rc, List.length_map, e]
  · simp only [xc, rc, List.map_map]
    congr 2
    exact List.map_congr_left (fun v _ => xv_rv ad sk r v)
def ab_r (rr : List Nat) : Nat → Nat := fun i => rr.getD i 0
def ab_put : ab_H → List Nat → List ab_C → ab_H
  | h, [], _ => h
  | h, _ :: _, [] => h
  | h, j :: rr, c :: cs => ab_put (h.set j c) rr cs
theorem ab_put_len : ∀ (rr : List Nat) (cs : List ab_C) (h : ab_H), (ab_put h rr cs).length = h.length := by
  intro rr
  induction rr with
  | nil => intro cs h; cases cs <;> rfl
  | cons j rr ih =>
    intro cs h
    cases cs with
    | nil => rfl
    | cons c cs => rw [ab_put, ih, List.length_set]
theorem ab_put_out : ∀ (rr : List Nat) (cs : List ab_C) (h : ab_H) (q : Nat), q ∉ rr → (ab_put h rr cs)[q]? = h[q]? := by
  intro rr
  induction rr with
  | nil => intro cs h q _; cases cs <;> rfl
  | cons j rr ih =>
    intro cs h q hq
    cases cs with
    | nil => rfl
    | cons c cs =>
      rw [ab_put, ih cs _ q (fun z => hq (List.mem_cons_of_mem _ z)), List.getElem?_set_ne (fun e => hq (by rw [e]; exact List.mem_cons_self))]
theorem ab_put_in : ∀ (rr : List Nat) (cs : List ab_C) (h : ab_H) (i q : Nat), va_nd rr = true → rr.length = cs.length → rr[i]? = some q → q < h.length → (ab_put h rr cs)[q]? = cs[i]? := by
  intro rr
  induction rr with
  | nil => intro cs h i q _ _ hi; simp at hi
  | cons j rr ih =>
    intro cs h i q hn hl hi hq
    cases cs with
    | nil => simp at hl
    | cons c cs =>
      simp only [va_nd, Bool.and_eq_true, decide_eq_true_eq] at hn
      rw [ab_put]
      cases i with
      | zero =>
        have e : j = q := by simpa using hi
        subst e
        rw [ab_put_out rr cs _ j hn.1, List.getElem?_set_self hq]
        rfl
      | succ i =>
        rw [ih cs _ i q hn.2 (by simpa using hl) (by simpa using hi) (by rw [List.length_set]; exact hq)]
        rfl
section VCALL
variable {own nm : String} {cc : ByteArray} {nL : Nat} {ret : Option FieldType} {R : Room} {Q : Option Value → ab_H → Prop} {mc ms k n pc : Nat} {L : List (Nat × Value)} {st : List Value} {h : ab_H}
theorem ab_sub {ad : Nat → Nat} {sk : Nat → Option Nat} {ac : Nat → ClassId} {rr : List Nat} {hs : ab_H} (hr : rr.map (fun j => h[j]?) = hs.map (fun c => some (rc (ab_r rr) c))) : rr.map (fun i => (xw ad sk ac h)[i]?) = (xw (fun i => ad (ab_r rr i)) sk ac hs).map some := by
  apply List.ext_getElem?
  intro i
  have h1 := congrArg (fun z => z[i]?) hr
  simp only [List.getElem?_map] at h1 ⊢
  rw [xw_at]
  cases hi : rr[i]? with
  | none =>
    rw [hi] at h1
    cases hc : hs[i]? with
    | none => rfl
    | some c => rw [hc] at h1; cases h1
  | some j =>
    rw [hi] at h1
    cases hc : hs[i]? with
    | none => rw [hc] at h1; cases h1
    | some c =>
      rw [hc] at h1
      have h2 : h[j]? = some (rc (ab_r rr) c) := Option.some.inj h1
      have hj : ab_r rr i = j := by simp [ab_r, List.getD_eq_getElem?_getD, hi]
      show some ((xw ad sk ac h)[j]?) = some (some _)
      rw [xw_of h2]
      show some (some (ad j, xc ad sk ac (rc (ab_r rr) c))) = some (some (ad (ab_r rr i), xc (fun i => ad (ab_r rr i)) sk ac c))
      rw [xc_rc ad sk (ab_r rr) ac c, hj]
set_option maxHeartbeats 4000000 in
theorem ab_cont {p : Program} {l : Launch} {e : Env} {s : State} {m : MethodId} {args : Array Value} {below : List Frame} {meth : Method} {c : Code} {dC : Nat → ClassId} {dI : Nat → Nat → Nat} {ac : Nat → ClassId} {sk : Nat → Option Nat} {A : Nat → Prop} {ad0 : Nat → Nat} {n0 : Nat} {Qs : State → Prop}
    (E : Ev own nm cc nL ret R Q mc ms p l e s m args below meth c dC dI ac sk A ad0 n0 Qs) {ad : Nat → Nat} {H : Heap} {locs : List Loc} {ls : Array Slot} (N : Nw dC dI ac sk A ad0 n0 s nL L h ad H locs ls) (rr : List Nat) {hs : ab_H} (hr : rr.map (fun j => h[j]?) = hs.map (fun c => some (rc (ab_r rr) c))) (hnd : va_nd rr = true) {Qc : Option Value → ab_H → Prop} {a : Array Value} {st0 : List Value}
    (run : va_Run p l e R s m args below meth c H locs k n 0 0 (F0 m pc ls st0) (st.map (xv ad sk)) (Pq dC dI ac sk (fun i => ad (ab_r rr i)) hs.length (va_A (xw (fun i => ad (ab_r rr i)) sk ac hs) H.size) Qc a) (va_A (xw (fun i => ad (ab_r rr i)) sk ac hs) H.size))
    (hlen : ∀ v h', Qc v h' → h'.length = hs.length) (kk : ∀ v h', Qc v h' → Vd own nm cc nL ret R Q mc ms k n (pc + 3) L ((v.map (rv (ab_r rr))).toList ++ st) (ab_put h rr (h'.map (rc (ab_r rr))))) : W p l e R s m args below meth c H locs k n Qs (F0 m pc ls st0) := by
  have hC := ab_sub (ad := ad) (sk := sk) (ac := ac) hr
  obtain ⟨hx, hP, hD, hS, hl⟩ := N
  have hF := va_free hD hS E.2.1 rr hC
  have hll : rr.length = hs.length := by simpa using congrArg List.length hr
  intro T hT X
  obtain ⟨v, st₀, t, T', Lx, h0, X', hL, e1, e2, ⟨⟨v', h', ad', hv, hq, ⟨-, -, hy⟩, hP1, hD1⟩, hz, hk⟩, stp⟩ := run T hT X
  have hlh := hlen v' h' hq
  have had := hy hlh
  subst had
  obtain rfl : v = v'.map (xv (fun i => ad (ab_r rr i)) sk) := by cases hv; rfl
  rw [h0] at hz hk
  rw [← e1] at hP1 hz hk
  have hS' : va_S A s.heap T'.heap (locs ++ Lx) := ⟨Nat.le_trans hS.1 hz, fun q h1 h2 => by rw [hk q (Nat.lt_of_lt_of_le h1 hS.1) (fun z => h2 (hF q z))]; exact hS.2.1 q h1 h2, fun q hq => by
      rcases List.mem_append.mp hq with h | h
      · exact hS.2.2 q h
      · exact hF _ (hL q h)⟩
  have hsub : ∀ (i : Nat) (x : Nat × va_E), (xw (fun i => ad (ab_r rr i)) sk ac hs)[i]? = some x → ∃ j, rr[i]? = some j ∧ (xw ad sk ac h)[j]? = some x := by
    intro i x hi
    have h1 := congrArg (fun z => z[i]?) hC
    simp only [List.getElem?_map] at h1
    rw [hi] at h1
    cases hj : rr[i]? with
    | none => rw [hj] at h1; cases h1
    | some j =>
      rw [hj] at h1
      exact ⟨j, rfl, Option.some.inj h1⟩
  have hin : ∀ (i j : Nat), rr[i]? = some j → j < h.length := by
    intro i j hi
    have h1 := congrArg (fun z => z[i]?) hr
    simp only [List.getElem?_map] at h1
    rw [hi] at h1
    cases hc : hs[i]? with
    | none => rw [hc] at h1; cases h1
    | some c =>
      rw [hc] at h1
      exact (List.getElem?_eq_some_iff.mp (Option.some.inj h1)).1
  have hlp : (ab_put h rr (h'.map (rc (ab_r rr)))).length = h.length := ab_put_len _ _ _
  have hP2 : va_P (dC, dI) vwCl (xw ad sk ac (ab_put h rr (h'.map (rc (ab_r rr))))) T'.heap := by
    intro q x hx2
    rw [xw_at] at hx2
    by_cases hqr : q ∈ rr
    · obtain ⟨i, hi⟩ := List.getElem?_of_mem hqr
      rw [ab_put_in rr _ h i q hnd (by rw [List.length_map, hlh, hll]) hi (hin i q hi), List.getElem?_map] at hx2
      cases hc : h'[i]? with
      | none => rw [hc] at hx2; cases hx2
      | some c =>
        rw [hc] at hx2
        have e : x = (ad q, xc ad sk ac (rc (ab_r rr) c)) := (Option.some.inj hx2).symm
        rw [e, ← xc_rc]
        have hj : ab_r rr i = q := by simp [ab_r, List.getD_eq_getElem?_getD, hi]
        have h2 := hP1 i _ (xw_of hc)
        rw [hj] at h2
        exact h2
    · rw [ab_put_out rr _ h q hqr] at hx2
      have h3 : (xw ad sk ac h)[q]? = some x := by rw [xw_at]; exact hx2
      have hlt := (hP q x h3).lt
      refine (hP q x h3).kept (hk x.1 hlt (fun z => ?_))
      rcases z with ⟨i, e, hi⟩ | z
      · obtain ⟨j, h4, h5⟩ := hsub i _ hi
        have := hD.1 q j _ _ h3 h5 rfl
        subst this
        exact hqr (List.mem_of_getElem? h4)
      · omega
  have hD2 : va_D A (xw ad sk ac (ab_put h rr (h'.map (rc (ab_r rr))))) := by
    have key : ∀ (q : Nat) (x : Nat × va_E), (xw ad sk ac (ab_put h rr (h'.map (rc (ab_r rr)))))[q]? = some x → ∃ y, (xw ad sk ac h)[q]? = some y ∧ y.1 = x.1 := by
      intro q x hx2
      have hlt : q < h.length := by
        have := (List.getElem?_eq_some_iff.mp hx2).1
        simpa [xw, hlp] using this
      refine ⟨_, xw_of (List.getElem?_eq_getElem hlt), ?_⟩
      rw [xw_at] at hx2
      cases hc : (ab_put h rr (h'.map (rc (ab_r rr))))[q]? with
      | none => rw [hc] at hx2; cases hx2
      | some c => rw [hc] at hx2; rw [← Option.some.inj hx2]
    refine ⟨fun i j x y hi hj hxy => ?_, fun q x hx2 => ?_⟩
    · obtain ⟨x0, a1, a2⟩ := key i x hi
      obtain ⟨y0, b1, b2⟩ := key j y hj
      exact hD.1 i j x0 y0 a1 b1 (a2.trans (hxy.trans b2.symm))
    · obtain ⟨x0, a1, a2⟩ := key q x hx2
      rw [← a2]
      exact hD.2 q x0 a1
  have w := kk v' h' hq p l e s m args below meth c dC dI ac sk A ad0 n0 Qs E ad T'.heap (locs ++ Lx) ls ⟨⟨by rw [hlp]; exact hx.1, hx.2.1, by rw [hlp]; exact hx.2.2⟩, hP2, hD2, hS', hl⟩
  obtain ⟨t2, a1, b1⟩ := w T' rfl X'
  refine ⟨t2, stp t2 ?_, b1⟩
  have e9 : (v'.map (xv (fun i => ad (ab_r rr i)) sk)).toList ++ st.map (xv ad sk) = ((v'.map (rv (ab_r rr))).toList ++ st).map (xv ad sk) := by
    cases v' with
    | none => rfl
    | some v' => simp [xv_rv]
  show Steps p.tables e below (T'.setTop { F0 m pc ls st0 with pc := pc + 3, stack := (v'.map (xv (fun i => ad (ab_r rr i)) sk)).toList ++ st.map (xv ad sk) }) t2
  rw [e9]
  exact a1
/-- an instance method that a link names -/
def MV (own : String) (idx : Nat) (y : MethodName) (cc : ByteArray) (nL : Nat) (ret : Option FieldType) (np : Nat) : Prop :=
  Cond.methodLink own idx y ∈ gw ∧ Cond.instanceMethod y ∈ gw ∧ Cond.selects y.cls y y ∈ gw ∧ Cond.initialized y.cls ∈ gw ∧ Cond.code y cc nL ret ∈ gw ∧ (y.cls ≠ "java/lang/invoke/MethodHandle" ∧ y.cls ≠ "java/lang/invoke/VarHandle" ∧ (parseMethodDescriptor y.desc).map (fun d => d.parameters.length) = some np)
def MS (own : String) (idx : Nat) (y : MethodName) (cc : ByteArray) (nL : Nat) (ret : Option FieldType) (np : Nat) : Prop :=
  Cond.methodLink own idx y ∈ gw ∧ Cond.static y ∈ gw ∧ Cond.initialized y.cls ∈ gw ∧ Cond.code y cc nL ret ∈ gw ∧ (y.cls ≠ "java/lang/invoke/MethodHandle" ∧ y.cls ≠ "java/lang/invoke/VarHandle" ∧ (parseMethodDescriptor y.desc).map (fun d => d.parameters.length) = some np)
def MN (own : String) (idx : Nat) (y : MethodName) (host : String) (cc : ByteArray) (nL : Nat) (ret : Option FieldType) (np : Nat) : Prop :=
  Cond.methodLinkNest own idx y host ∈ lw_tbl ∧ Cond.static y ∈ gw ∧ Cond.initialized y.cls ∈ gw ∧ Cond.code y cc nL ret ∈ gw ∧ (y.cls ≠ "java/lang/invoke/MethodHandle" ∧ y.cls ≠ "java/lang/invoke/VarHandle" ∧ (parseMethodDescriptor y.desc).map (fun d => d.parameters.length) = some np)
theorem gw_code {y : MethodName} {cc : ByteArray} {nL : Nat} {ret : Option FieldType} (h : Cond.code y cc nL ret ∈ gw) : GoodIn gw (Cond.code y cc nL ret :: gw) := fun w hw => by
  rcases List.mem_cons.mp hw with rfl | hw
  · exact gw_all _ h
  · exact gw_all _ hw
theorem Mt.blind {dC : Nat → ClassId} {dI : Nat → Nat → Nat} {ac : Nat → ClassId} {sk : Nat → Option Nat} {ad : Nat → Nat} {as : List Value} {hs : ab_H} {sz : Nat} : FrameBlind (va_Pc (as.map (xv ad sk)) (fun U => U.heap.size = sz ∧ va_P (dC, dI) vwCl (xw ad sk ac hs) U.heap ∧ va_K (dC, dI) vwCl (ab_ty ac) U ∧ va_D (fun _ => True) (xw ad sk ac hs) ∧ SX sk (va_A (xw ad sk ac hs) sz) U U.heap)) := fun a U g mk q => by
  obtain ⟨q0, q1, qP, qK, qD, qX⟩ := q
  exact ⟨q0, q1, qP, va_K.moved (u := U) (U := U.calling g mk a) (Vm.Alike.refl U.vm) qK, qD, SX.same (u := U) (U := U.calling g mk a) rfl qX⟩
theorem Mt.pre {p : Program} {l : Launch} {e : Env} {s : State} {m : MethodId} {args : Array Value} {below : List Frame} {meth : Method} {c : Code} {dC : Nat → ClassId} {dI : Nat → Nat → Nat} {ac : Nat → ClassId} {sk : Nat → Option Nat} {A : Nat → Prop} {ad0 : Nat → Nat} {n0 : Nat} {Qs : State → Prop}
    (E : Ev own nm cc nL ret R Q mc ms p l e s m args below meth c dC dI ac sk A ad0 n0 Qs) {ad : Nat → Nat} {H : Heap} {locs : List Loc} {ls : Array Slot} (N : Nw dC dI ac sk A ad0 n0 s nL L h ad H locs ls) (rr : List Nat) {hs : ab_H} (hr : rr.map (fun j => h[j]?) = hs.map (fun c => some (rc (ab_r rr) c))) (hnd : va_nd rr = true) {as As : List Value} (ha : as.map (rv (ab_r rr)) = As) :
    ∀ U : State, U.heap = H → s.WarmedH U.vm → va_Pc (as.map (xv (fun i => ad (ab_r rr i)) sk)) (fun U => U.heap.size = H.size ∧ va_P (dC, dI) vwCl (xw (fun i => ad (ab_r rr i)) sk ac hs) U.heap ∧ va_K (dC, dI) vwCl (ab_ty ac) U ∧ va_D (fun _ => True) (xw (fun i => ad (ab_r rr i)) sk ac hs) ∧ SX sk (va_A (xw (fun i => ad (ab_r rr i)) sk ac hs) H.size) U U.heap) (As.map (xv ad sk)).toArray U := by
  intro U hU hW
  have hC := ab_sub (ad := ad) (sk := sk) (ac := ac) hr
  have hC2 : rr.filterMap (fun i => (xw ad sk ac h)[i]?) = xw (fun i => ad (ab_r rr i)) sk ac hs := by
    have h1 : (rr.map (fun i => (xw ad sk ac h)[i]?)).filterMap id = ((xw (fun i => ad (ab_r rr i)) sk ac hs).map some).filterMap id := by rw [hC]
    simpa [List.filterMap_map] using h1
  have hP := N.2.1.sub rr hC2
  have hD := N.2.2.1.sub rr hnd hC
  have hF := va_free N.2.2.1 N.2.2.2.1 E.2.1 rr hC
  refine ⟨?_, by rw [hU], by rw [hU]; exact hP, va_K.moved hW.alike E.2.2.2.1, hD.weaken (fun _ _ _ _ => trivial), SX.move E.2.2.1 N.2.2.2.1 hW hU hF⟩
  rw [← ha, List.map_map]
  congr 1
  exact List.map_congr_left (fun v _ => (xv_rv ad sk (ab_r rr) v).symm)
variable {y : MethodName} {cy : ByteArray} {nLy : Nat} {rety : Option FieldType} {Ry : Room} {as : List Value} {hs : ab_H} {Qc : Option Value → ab_H → Prop}
set_option maxHeartbeats 4000000 in
theorem v_invV {idx np b ci : Nat} {As : List Value} {fs : List Value} {stk : List Value} (rr : List Nat) (hd : decode cc pc = .ok (.invokevirtual idx, 3)) (f : MV own idx y cy nLy rety np) (hM : Mt y cy nLy rety Ry as hs Qc) (hr : rr.map (fun j => h[j]?) = hs.map (fun c => some (rc (ab_r rr) c))) (hnd : va_nd rr = true) (ha : as.map (rv (ab_r rr)) = .ref b :: As) (hstk : stk = As.reverse ++ .ref b :: st) (hnp : As.length = np) (hb : h[b]? = some (aO ci fs)) (hci : (vwCl[ci]?).map (fun q => q.1) = some y.cls) (hcat : (st.map fun v => v.category).sum ≤ 8) (hR0 : Ry.cells = 0 ∧ Ry.slots = 0) (hR : Ry.frames + 1 ≤ R.frames ∧ 8 + (nLy + 11) + Ry.locals ≤ R.locals) (hk : k ≤ R.cells ∧ n ≤ R.slots) (hlen : ∀ v h', Qc v h' → h'.length = hs.length) (kk : ∀ v h', Qc v h' → Vd own nm cc nL ret R Q mc ms k n (pc + 3) L ((v.map (rv (ab_r rr))).toList ++ st) (ab_put h rr (h'.map (rc (ab_r rr))))) : Vd own nm cc nL ret R Q mc ms k n pc L stk h := by
  intro p l e s m args below meth c dC dI ac sk A ad0 n0 Qs E ad H locs ls N
  obtain ⟨f1, f2, f3, f4, f5, f6⟩ := f
  have hM := hM l dC dI ac sk (fun i => ad (ab_r rr i)) H.size
  rw [hR0.1, hR0.2] at hM
  obtain ⟨q, hq1, hq2⟩ : ∃ q, vwCl[ci]? = some q ∧ q.1 = y.cls := by
    cases hc : vwCl[ci]? with
    | none => rw [hc] at hci; cases hci
    | some q => rw [hc] at hci; exact ⟨q, rfl, Option.some.inj hci⟩
  have hg : GoodIn gw (wsV own idx y.cls y (Cond.code y cy nLy rety :: gw)) := fun w hw => by
    rcases List.mem_append.mp hw with hw | hw
    · simp only [List.mem_cons, List.not_mem_nil, or_false] at hw
      rcases hw with rfl | rfl | rfl | rfl
      · exact gw_all _ f1
      · exact gw_all _ f2
      · exact gw_all _ f3
      · exact gw_all _ f4
    · exact gw_code f5 w hw
  have hpre := Mt.pre E N rr hr hnd ha
  subst hstk
  refine ab_cont E N rr hr hnd (va_runV (As := As.map (xv ad sk)) (rest := st.map (xv ad sk)) (b := ad b) ⟨E.1.1, E.1.2.1, E.1.2.2.2.1, E.1.2.2.2.2.1, E.1.2.2.2.2.2.1⟩ hM (cwV np E.1.2.2.2.2.2.1 hg rfl hR0.1 hR0.2 ⟨rfl, f6.1, f6.2.1, f6.2.2⟩ hR) ⟨Mt.blind, ?_, hpre⟩ rfl (by rw [List.length_map]; exact hnp) N.2.2.2.2.1 (by show List.map _ _ = _; simp [xv]) (lv_room (by rw [xv_cats]; exact hcat)) hd ⟨hk.1, hk.2⟩) hlen kk
  rw [← hq2]
  exact va_recv E.2.2.2.1 N.2.1 hq1 (xw_of hb)
set_option maxHeartbeats 4000000 in
theorem v_invS {idx np : Nat} {As : List Value} {stk : List Value} (rr : List Nat) (hd : decode cc pc = .ok (.invokestatic idx, 3)) (f : MS own idx y cy nLy rety np) (hM : Mt y cy nLy rety Ry as hs Qc) (hr : rr.map (fun j => h[j]?) = hs.map (fun c => some (rc (ab_r rr) c))) (hnd : va_nd rr = true) (ha : as.map (rv (ab_r rr)) = As) (hstk : stk = As.reverse ++ st) (hnp : As.length = np) (hcat : (st.map fun v => v.category).sum ≤ 8) (hR0 : Ry.cells = 0 ∧ Ry.slots = 0) (hR : Ry.frames + 1 ≤ R.frames ∧ 8 + (nLy + 11) + Ry.locals ≤ R.locals) (hk : k ≤ R.cells ∧ n ≤ R.slots) (hlen : ∀ v h', Qc v h' → h'.length = hs.length) (kk : ∀ v h', Qc v h' → Vd own nm cc nL ret R Q mc ms k n (pc + 3) L ((v.map (rv (ab_r rr))).toList ++ st) (ab_put h rr (h'.map (rc (ab_r rr))))) : Vd own nm cc nL ret R Q mc ms k n pc L stk h := by
  intro p l e s m args below meth c dC dI ac sk A ad0 n0 Qs E ad H locs ls N
  obtain ⟨f1, f2, f4, f5, f6⟩ := f
  have hM := hM l dC dI ac sk (fun i => ad (ab_r rr i)) H.size
  rw [hR0.1, hR0.2] at hM
  have hg : GoodIn gw (va_wsS own idx y (Cond.code y cy nLy rety :: gw)) := fun w hw => by
    rcases List.mem_append.mp hw with hw | hw
    · simp only [List.mem_cons, List.not_mem_nil, or_false] at hw
      rcases hw with rfl | rfl | rfl
      · exact gw_all _ f1
      · exact gw_all _ f2
      · exact gw_all _ f4
    · exact gw_code f5 w hw
  have hpre := Mt.pre E N rr hr hnd ha
  subst hstk
  exact ab_cont E N rr hr hnd (va_runS (As := As.map (xv ad sk)) (rest := st.map (xv ad sk)) ⟨E.1.1, E.1.2.1, E.1.2.2.2.1, E.1.2.2.2.2.1, E.1.2.2.2.2.2.1⟩ hM (va_cwS np E.1.2.2.2.2.2.1 hg rfl hR0.1 hR0.2 f6 hR) ⟨Mt.blind, hpre⟩ rfl (by rw [List.length_map]; exact hnp) N.2.2.2.2.1 (by show List.map _ _ = _; simp) (lv_room (by rw [xv_cats]; exact hcat)) hd ⟨hk.1, hk.2⟩) hlen kk
set_option maxHeartbeats 4000000 in
theorem v_invN {idx np : Nat} {host : String} {As : List Value} {stk : List Value} (rr : List Nat) (hd : decode cc pc = .ok (.invokestatic idx, 3)) (f : MN own idx y host cy nLy rety np) (hM : Mt y cy nLy rety Ry as hs Qc) (hr : rr.map (fun j => h[j]?) = hs.map (fun c => some (rc (ab_r rr) c))) (hnd : va_nd rr = true) (ha : as.map (rv (ab_r rr)) = As) (hstk : stk = As.reverse ++ st) (hnp : As.length = np) (hcat : (st.map fun v => v.category).sum ≤ 8) (hR0 : Ry.cells = 0 ∧ Ry.slots = 0) (hR : Ry.frames + 1 ≤ R.frames ∧ 8 + (nLy + 11) + Ry.locals ≤ R.locals) (hk : k ≤ R.cells ∧ n ≤ R.slots) (hlen : ∀ v h', Qc v h' → h'.length = hs.length) (kk : ∀ v h', Qc v h' → Vd own nm cc nL ret R Q mc ms k n (pc + 3) L ((v.map (rv (ab_r rr))).toList ++ st) (ab_put h rr (h'.map (rc (ab_r rr))))) : Vd own nm cc nL ret R Q mc ms k n pc L stk h := by
  intro p l e s m args below meth c dC dI ac sk A ad0 n0 Qs E ad H locs ls N
  obtain ⟨f1, f2, f4, f5, f6⟩ := f
  have hM := hM l dC dI ac sk (fun i => ad (ab_r rr i)) H.size
  rw [hR0.1, hR0.2] at hM
  have hpre := Mt.pre E N rr hr hnd ha
  subst hstk
  exact ab_cont E N rr hr hnd (va_runSN (As := As.map (xv ad sk)) (rest := st.map (xv ad sk)) (host := host) ⟨E.1.1, E.1.2.1, E.1.2.2.2.1, E.1.2.2.2.2.1, E.1.2.2.2.2.2.1⟩ hM ⟨va_cnB np E.1.2.2.2.2.2.1 (gw_code f5) rfl hR0.1 hR0.2 (E.2.2.1.1 _ f1 rfl) (E.1.2.2.2.2.2.1 _ f4) f6 hR, E.1.2.2.2.2.2.1 _ f2, trivial⟩ ⟨Mt.blind, hpre⟩ rfl (by rw [List.length_map]; exact hnp) N.2.2.2.2.1 (by show List.map _ _ = _; simp) (lv_room (by rw [xv_cats]; exact hcat)) hd ⟨hk.1, hk.2⟩) hlen kk
end VCALL
end
section
theorem tq1 {w : Cond} (i : Nat) (h : tables_1_1[i]? = some w) : w ∈ lw_tbl := List.mem_append_right _ (List.mem_append_left _ (List.mem_of_getElem? h))
theorem tw1 {w : Cond} (i : Nat) (h : tables_1_1[i]? = some w) (g : goodWord w = true) : w ∈ gw := gw_in (tq1 i h) g
theorem tq2 {w : Cond} (i : Nat) (h : tables_1_2[i]? = some w) : w ∈ lw_tbl := List.mem_append_right _ (List.mem_append_right _ (List.mem_append_left _ (List.mem_of_getElem? h)))
theorem tw2 {w : Cond} (i : Nat) (h : tables_1_2[i]? = some w) (g : goodWord w = true) : w ∈ gw := gw_in (tq2 i h) g
theorem tq3 {w : Cond} (i : Nat) (h : tables_1_3[i]? = some w) : w ∈ lw_tbl := List.mem_append_right _ (List.mem_append_right _ (List.mem_append_right _ (List.mem_append_left _ (List.mem_of_getElem? h))))
theorem tw3 {w : Cond} (i : Nat) (h : tables_1_3[i]? = some w) (g : goodWord w = true) : w ∈ gw := gw_in (tq3 i h) g
theorem tq4 {w : Cond} (i : Nat) (h : tables_1_4[i]? = some w) : w ∈ lw_tbl := List.mem_append_right _ (List.mem_append_right _ (List.mem_append_right _ (List.mem_append_right _ (List.mem_append_left _ (List.mem_of_getElem? h)))))
theorem tw4 {w : Cond} (i : Nat) (h : tables_1_4[i]? = some w) (g : goodWord w = true) : w ∈ gw := gw_in (tq4 i h) g
theorem tq5 {w : Cond} (i : Nat) (h : tables_1_5[i]? = some w) : w ∈ lw_tbl := List.mem_append_right _ (List.mem_append_right _ (List.mem_append_right _ (List.mem_append_right _ (List.mem_append_right _ (List.mem_of_getElem? h)))))
theorem tw5 {w : Cond} (i : Nat) (h : tables_1_5[i]? = some w) (g : goodWord w = true) : w ∈ gw := gw_in (tq5 i h) g
theorem tw0 {w : Cond} (i : Nat) (h : (k2_sels lw_privs)[i]? = some w) (g : goodWord w = true) : w ∈ gw := gw_in (List.mem_append_left _ (List.mem_of_getElem? h)) g
theorem inw_X0 : ∀ w ∈ u_ws RX0 TX0 12, w ∈ gw := by
  rw [show u_ws RX0 TX0 12 = [Cond.laysFinal RX0 "FireLeave$City" "kind" "[I", Cond.laysFinal RX0 "FireLeave$City" "worth" "[I", Cond.laysFinal RX0 "FireLeave$City" "lost" "[I", Cond.laysFinal RX0 "FireLeave$City" "burntOf" "[I", Cond.lays RX0 "FireLeave$City" "houses" "I", Cond.lays RX0 "FireLeave$City" "at" "I", Cond.lays RX0 "FireLeave$City" "hunger" "I", Cond.lays RX0 "FireLeave$City" "temper" "I", Cond.lays RX0 "FireLeave$City" "rainBits" "I", Cond.lays RX0 "FireLeave$City" "night" "I", Cond.lays RX0 "FireLeave$City" "burnt" "I", Cond.lays RX0 "FireLeave$City" "given" "I"] from rfl]
  simp only [List.forall_mem_cons]
  exact ⟨(tw1 89 rfl rfl), (tw1 91 rfl rfl), (tw1 93 rfl rfl), (tw1 95 rfl rfl), (tw1 97 rfl rfl), (tw1 99 rfl rfl), (tw1 101 rfl rfl), (tw1 103 rfl rfl), (tw1 105 rfl rfl), (tw1 107 rfl rfl), (tw1 109 rfl rfl), (tw1 111 rfl rfl), fun _ h => absurd h List.not_mem_nil⟩
theorem inw_X1 : ∀ w ∈ u_ws RX1 TX1 3, w ∈ gw := by
  rw [show u_ws RX1 TX1 3 = [Cond.laysFinal RX1 "FireLeave$Image" "city" "LFireLeave$City;", Cond.laysFinal RX1 "FireLeave$Image" "seen" "LFireLeave$Sightings;", Cond.lays RX1 "FireLeave$Image" "there" "Z"] from rfl]
  simp only [List.forall_mem_cons]
  exact ⟨(tw1 186 rfl rfl), (tw1 188 rfl rfl), (tw1 190 rfl rfl), fun _ h => absurd h List.not_mem_nil⟩
theorem inw_X2 : ∀ w ∈ u_ws RX2 TX2 4, w ∈ gw := by
  rw [show u_ws RX2 TX2 4 = [Cond.laysFinal RX2 "FireLeave$Sheet" "cells" "[I", Cond.lays RX2 "FireLeave$Sheet" "there" "Z", Cond.lays RX2 "FireLeave$Sheet" "lane" "I", Cond.lays RX2 "FireLeave$Sheet" "size" "I"] from rfl]
  simp only [List.forall_mem_cons]
  exact ⟨(tw1 207 rfl rfl), (tw1 209 rfl rfl), (tw1 211 rfl rfl), (tw1 213 rfl rfl), fun _ h => absurd h List.not_mem_nil⟩
theorem inw_X3 : ∀ w ∈ u_ws RX3 TX3 4, w ∈ gw := by
  rw [show u_ws RX3 TX3 4 = [Cond.laysFinal RX3 "FireLeave$Sightings" "where" "[I", Cond.laysFinal RX3 "FireLeave$Sightings" "nights" "[I", Cond.laysFinal RX3 "FireLeave$Sightings" "worth" "[I", Cond.lays RX3 "FireLeave$Sightings" "size" "I"] from rfl]
  simp only [List.forall_mem_cons]
  exact ⟨(tw1 161 rfl rfl), (tw1 163 rfl rfl), (tw1 165 rfl rfl), (tw1 167 rfl rfl), fun _ h => absurd h List.not_mem_nil⟩
theorem inw_X4 : ∀ w ∈ u_ws RX4 TX4 4, w ∈ gw := by
  rw [show u_ws RX4 TX4 4 = [Cond.laysFinal RX4 "FireLeave$Tape" "bytes" "[B", Cond.lays RX4 "FireLeave$Tape" "next" "I", Cond.lays RX4 "FireLeave$Tape" "length" "I", Cond.lays RX4 "FireLeave$Tape" "start" "I"] from rfl]
  simp only [List.forall_mem_cons]
  exact ⟨(tw1 44 rfl rfl), (tw1 46 rfl rfl), (tw1 48 rfl rfl), (tw1 50 rfl rfl), fun _ h => absurd h List.not_mem_nil⟩
theorem inw_X5 : ∀ w ∈ u_ws RX5 TX5 9, w ∈ gw := by
  rw [show u_ws RX5 TX5 9 = [Cond.laysFinal RX5 "FireLeave$TextReader" "tape" "LFireLeave$Tape;", Cond.laysFinal RX5 "FireLeave$TextReader" "told" "LFireLeave$City;", Cond.laysFinal RX5 "FireLeave$TextReader" "offerHouse" "[I", Cond.laysFinal RX5 "FireLeave$TextReader" "offerMuch" "[I", Cond.lays RX5 "FireLeave$TextReader" "offers" "I", Cond.lays RX5 "FireLeave$TextReader" "fireTold" "Z", Cond.lays RX5 "FireLeave$TextReader" "lines" "I", Cond.lays RX5 "FireLeave$TextReader" "fault" "I", Cond.lays RX5 "FireLeave$TextReader" "faultPlace" "I"] from rfl]
  simp only [List.forall_mem_cons]
  exact ⟨(tw1 129 rfl rfl), (tw1 131 rfl rfl), (tw1 133 rfl rfl), (tw1 135 rfl rfl), (tw1 137 rfl rfl), (tw1 139 rfl rfl), (tw1 141 rfl rfl), (tw1 143 rfl rfl), (tw1 145 rfl rfl), fun _ h => absurd h List.not_mem_nil⟩
theorem inw_X6 : ∀ w ∈ u_ws RX6 TX6 10, w ∈ gw := by
  rw [show u_ws RX6 TX6 10 = [Cond.laysFinal RX6 "FireLeave" "reader" "LFireLeave$TextReader;", Cond.laysFinal RX6 "FireLeave" "now" "LFireLeave$City;", Cond.laysFinal RX6 "FireLeave" "trial" "LFireLeave$City;", Cond.laysFinal RX6 "FireLeave" "seen" "LFireLeave$Sightings;", Cond.laysFinal RX6 "FireLeave" "images" "[LFireLeave$Image;", Cond.laysFinal RX6 "FireLeave" "sheets" "[LFireLeave$Sheet;", Cond.laysFinal RX6 "FireLeave" "left" "[I", Cond.laysFinal RX6 "FireLeave" "tally" "[I", Cond.lays RX6 "FireLeave" "latestFault" "I", Cond.lays RX6 "FireLeave" "latestTear" "I"] from rfl]
  simp only [List.forall_mem_cons]
  exact ⟨(tw1 226 rfl rfl), (tw1 228 rfl rfl), (tw1 230 rfl rfl), (tw1 232 rfl rfl), (tw1 234 rfl rfl), (tw1 236 rfl rfl), (tw1 238 rfl rfl), (tw2 0 rfl rfl), (tw2 2 rfl rfl), (tw2 4 rfl rfl), fun _ h => absurd h List.not_mem_nil⟩
theorem inw_X7 : ∀ w ∈ u_ws RX7 TX7 28, w ∈ gw := by
  rw [show u_ws RX7 TX7 28 = [Cond.laysFinal RX7 "FireLeaveModel" "st" "[I", Cond.laysFinal RX7 "FireLeaveModel" "now" "[I", Cond.laysFinal RX7 "FireLeaveModel" "isKept" "[Z", Cond.lays RX7 "FireLeaveModel" "houses" "I", Cond.laysFinal RX7 "FireLeaveModel" "draft" "[I", Cond.lays RX7 "FireLeaveModel" "dHouses" "I", Cond.lays RX7 "FireLeaveModel" "hasFire" "Z", Cond.lays RX7 "FireLeaveModel" "offerMany" "I", Cond.laysFinal RX7 "FireLeaveModel" "offered" "[I", Cond.lays RX7 "FireLeaveModel" "highest" "I", Cond.laysFinal RX7 "FireLeaveModel" "tape" "[I", Cond.lays RX7 "FireLeaveModel" "taped" "I", Cond.lays RX7 "FireLeaveModel" "pos" "I", Cond.lays RX7 "FireLeaveModel" "from" "I", Cond.lays RX7 "FireLeaveModel" "sort" "I", Cond.lays RX7 "FireLeaveModel" "value" "I", Cond.lays RX7 "FireLeaveModel" "fault" "I", Cond.lays RX7 "FireLeaveModel" "wrongAt" "I", Cond.lays RX7 "FireLeaveModel" "safeSum" "J", Cond.lays RX7 "FireLeaveModel" "lossSum" "J", Cond.lays RX7 "FireLeaveModel" "allWays" "J", Cond.laysFinal RX7 "FireLeaveModel" "left" "[I", Cond.laysFinal RX7 "FireLeaveModel" "ways" "[I", Cond.laysFinal RX7 "FireLeaveModel" "lanes" "[I", Cond.laysFinal RX7 "FireLeaveModel" "sizes" "[I", Cond.laysFinal RX7 "FireLeaveModel" "cells" "[I", Cond.lays RX7 "FireLeaveModel" "torn" "I", Cond.laysFinal RX7 "FireLeaveModel" "had" "[I"] from rfl]
  simp only [List.forall_mem_cons]
  exact ⟨(tw4 47 rfl rfl), (tw4 49 rfl rfl), (tw4 51 rfl rfl), (tw4 53 rfl rfl), (tw4 55 rfl rfl), (tw4 57 rfl rfl), (tw4 59 rfl rfl), (tw4 61 rfl rfl), (tw4 63 rfl rfl), (tw4 65 rfl rfl), (tw4 67 rfl rfl), (tw4 69 rfl rfl), (tw4 71 rfl rfl), (tw4 73 rfl rfl), (tw4 75 rfl rfl), (tw4 77 rfl rfl), (tw4 79 rfl rfl), (tw4 81 rfl rfl), (tw4 83 rfl rfl), (tw4 85 rfl rfl), (tw4 87 rfl rfl), (tw4 89 rfl rfl), (tw4 91 rfl rfl), (tw4 93 rfl rfl), (tw4 95 rfl rfl), (tw4 97 rfl rfl), (tw4 99 rfl rfl), (tw4 101 rfl rfl), fun _ h => absurd h List.not_mem_nil⟩
theorem fl_X4_9 : FL RX4 9 4 0 (.array .byte) true := ⟨RX4, TX4, 4, tyX4, rfl, inw_X4, by decide, (tw1 37 rfl rfl), rfl, rfl, tyX4_ok 0 (by decide), tyX4_ok, nmX4⟩
theorem fl_X4_19 : FL RX4 19 4 1 .int false := ⟨RX4, TX4, 4, tyX4, rfl, inw_X4, by decide, (tw1 38 rfl rfl), rfl, rfl, tyX4_ok 1 (by decide), tyX4_ok, nmX4⟩
theorem fl_X4_15 : FL RX4 15 4 2 .int false := ⟨RX4, TX4, 4, tyX4, rfl, inw_X4, by decide, (tw1 39 rfl rfl), rfl, rfl, tyX4_ok 2 (by decide), tyX4_ok, nmX4⟩
theorem fl_X6_68 : FL RX6 68 4 2 .int false := ⟨RX4, TX4, 4, tyX4, rfl, inw_X4, by decide, (tw1 40 rfl rfl), rfl, rfl, tyX4_ok 2 (by decide), tyX4_ok, nmX4⟩
theorem fl_X5_148 : FL RX5 148 4 2 .int false := ⟨RX4, TX4, 4, tyX4, rfl, inw_X4, by decide, (tw1 41 rfl rfl), rfl, rfl, tyX4_ok 2 (by decide), tyX4_ok, nmX4⟩
theorem fl_X4_22 : FL RX4 22 4 3 .int false := ⟨RX4, TX4, 4, tyX4, rfl, inw_X4, by decide, (tw1 42 rfl rfl), rfl, rfl, tyX4_ok 3 (by decide), tyX4_ok, nmX4⟩
theorem fl_X5_69 : FL RX5 69 4 3 .int false := ⟨RX4, TX4, 4, tyX4, rfl, inw_X4, by decide, (tw1 43 rfl rfl), rfl, rfl, tyX4_ok 3 (by decide), tyX4_ok, nmX4⟩
theorem fl_X0_9 : FL RX0 9 0 0 (.array .int) true := ⟨RX0, TX0, 12, tyX0, rfl, inw_X0, by decide, (tw1 60 rfl rfl), rfl, rfl, tyX0_ok 0 (by decide), tyX0_ok, nmX0⟩
theorem fl_X6_132 : FL RX6 132 0 0 (.array .int) true := ⟨RX0, TX0, 12, tyX0, rfl, inw_X0, by decide, (tw1 61 rfl rfl), rfl, rfl, tyX0_ok 0 (by decide), tyX0_ok, nmX0⟩
theorem fl_X0_15 : FL RX0 15 0 1 (.array .int) true := ⟨RX0, TX0, 12, tyX0, rfl, inw_X0, by decide, (tw1 62 rfl rfl), rfl, rfl, tyX0_ok 1 (by decide), tyX0_ok, nmX0⟩
theorem fl_X6_135 : FL RX6 135 0 1 (.array .int) true := ⟨RX0, TX0, 12, tyX0, rfl, inw_X0, by decide, (tw1 63 rfl rfl), rfl, rfl, tyX0_ok 1 (by decide), tyX0_ok, nmX0⟩
theorem fl_X0_18 : FL RX0 18 0 2 (.array .int) true := ⟨RX0, TX0, 12, tyX0, rfl, inw_X0, by decide, (tw1 64 rfl rfl), rfl, rfl, tyX0_ok 2 (by decide), tyX0_ok, nmX0⟩
theorem fl_X6_138 : FL RX6 138 0 2 (.array .int) true := ⟨RX0, TX0, 12, tyX0, rfl, inw_X0, by decide, (tw1 65 rfl rfl), rfl, rfl, tyX0_ok 2 (by decide), tyX0_ok, nmX0⟩
theorem fl_X0_21 : FL RX0 21 0 3 (.array .int) true := ⟨RX0, TX0, 12, tyX0, rfl, inw_X0, by decide, (tw1 66 rfl rfl), rfl, rfl, tyX0_ok 3 (by decide), tyX0_ok, nmX0⟩
theorem fl_X6_180 : FL RX6 180 0 3 (.array .int) true := ⟨RX0, TX0, 12, tyX0, rfl, inw_X0, by decide, (tw1 67 rfl rfl), rfl, rfl, tyX0_ok 3 (by decide), tyX0_ok, nmX0⟩
theorem fl_X0_28 : FL RX0 28 0 4 .int false := ⟨RX0, TX0, 12, tyX0, rfl, inw_X0, by decide, (tw1 68 rfl rfl), rfl, rfl, tyX0_ok 4 (by decide), tyX0_ok, nmX0⟩
theorem fl_X6_101 : FL RX6 101 0 4 .int false := ⟨RX0, TX0, 12, tyX0, rfl, inw_X0, by decide, (tw1 69 rfl rfl), rfl, rfl, tyX0_ok 4 (by decide), tyX0_ok, nmX0⟩
theorem fl_X5_122 : FL RX5 122 0 4 .int false := ⟨RX0, TX0, 12, tyX0, rfl, inw_X0, by decide, (tw1 70 rfl rfl), rfl, rfl, tyX0_ok 4 (by decide), tyX0_ok, nmX0⟩
theorem fl_X0_31 : FL RX0 31 0 5 .int false := ⟨RX0, TX0, 12, tyX0, rfl, inw_X0, by decide, (tw1 71 rfl rfl), rfl, rfl, tyX0_ok 5 (by decide), tyX0_ok, nmX0⟩
theorem fl_X6_104 : FL RX6 104 0 5 .int false := ⟨RX0, TX0, 12, tyX0, rfl, inw_X0, by decide, (tw1 72 rfl rfl), rfl, rfl, tyX0_ok 5 (by decide), tyX0_ok, nmX0⟩
theorem fl_X5_132 : FL RX5 132 0 5 .int false := ⟨RX0, TX0, 12, tyX0, rfl, inw_X0, by decide, (tw1 73 rfl rfl), rfl, rfl, tyX0_ok 5 (by decide), tyX0_ok, nmX0⟩
theorem fl_X0_24 : FL RX0 24 0 6 .int false := ⟨RX0, TX0, 12, tyX0, rfl, inw_X0, by decide, (tw1 74 rfl rfl), rfl, rfl, tyX0_ok 6 (by decide), tyX0_ok, nmX0⟩
theorem fl_X6_107 : FL RX6 107 0 6 .int false := ⟨RX0, TX0, 12, tyX0, rfl, inw_X0, by decide, (tw1 75 rfl rfl), rfl, rfl, tyX0_ok 6 (by decide), tyX0_ok, nmX0⟩
theorem fl_X5_135 : FL RX5 135 0 6 .int false := ⟨RX0, TX0, 12, tyX0, rfl, inw_X0, by decide, (tw1 76 rfl rfl), rfl, rfl, tyX0_ok 6 (by decide), tyX0_ok, nmX0⟩
theorem fl_X0_34 : FL RX0 34 0 7 .int false := ⟨RX0, TX0, 12, tyX0, rfl, inw_X0, by decide, (tw1 77 rfl rfl), rfl, rfl, tyX0_ok 7 (by decide), tyX0_ok, nmX0⟩
theorem fl_X6_110 : FL RX6 110 0 7 .int false := ⟨RX0, TX0, 12, tyX0, rfl, inw_X0, by decide, (tw1 78 rfl rfl), rfl, rfl, tyX0_ok 7 (by decide), tyX0_ok, nmX0⟩
theorem fl_X5_138 : FL RX5 138 0 7 .int false := ⟨RX0, TX0, 12, tyX0, rfl, inw_X0, by decide, (tw1 79 rfl rfl), rfl, rfl, tyX0_ok 7 (by decide), tyX0_ok, nmX0⟩
theorem fl_X0_37 : FL RX0 37 0 8 .int false := ⟨RX0, TX0, 12, tyX0, rfl, inw_X0, by decide, (tw1 80 rfl rfl), rfl, rfl, tyX0_ok 8 (by decide), tyX0_ok, nmX0⟩
theorem fl_X6_113 : FL RX6 113 0 8 .int false := ⟨RX0, TX0, 12, tyX0, rfl, inw_X0, by decide, (tw1 81 rfl rfl), rfl, rfl, tyX0_ok 8 (by decide), tyX0_ok, nmX0⟩
theorem fl_X5_141 : FL RX5 141 0 8 .int false := ⟨RX0, TX0, 12, tyX0, rfl, inw_X0, by decide, (tw1 82 rfl rfl), rfl, rfl, tyX0_ok 8 (by decide), tyX0_ok, nmX0⟩
theorem fl_X0_40 : FL RX0 40 0 9 .int false := ⟨RX0, TX0, 12, tyX0, rfl, inw_X0, by decide, (tw1 83 rfl rfl), rfl, rfl, tyX0_ok 9 (by decide), tyX0_ok, nmX0⟩
theorem fl_X6_116 : FL RX6 116 0 9 .int false := ⟨RX0, TX0, 12, tyX0, rfl, inw_X0, by decide, (tw1 84 rfl rfl), rfl, rfl, tyX0_ok 9 (by decide), tyX0_ok, nmX0⟩
theorem fl_X0_43 : FL RX0 43 0 10 .int false := ⟨RX0, TX0, 12, tyX0, rfl, inw_X0, by decide, (tw1 85 rfl rfl), rfl, rfl, tyX0_ok 10 (by decide), tyX0_ok, nmX0⟩
theorem fl_X6_119 : FL RX6 119 0 10 .int false := ⟨RX0, TX0, 12, tyX0, rfl, inw_X0, by decide, (tw1 86 rfl rfl), rfl, rfl, tyX0_ok 10 (by decide), tyX0_ok, nmX0⟩
theorem fl_X0_46 : FL RX0 46 0 11 .int false := ⟨RX0, TX0, 12, tyX0, rfl, inw_X0, by decide, (tw1 87 rfl rfl), rfl, rfl, tyX0_ok 11 (by decide), tyX0_ok, nmX0⟩
theorem fl_X6_122 : FL RX6 122 0 11 .int false := ⟨RX0, TX0, 12, tyX0, rfl, inw_X0, by decide, (tw1 88 rfl rfl), rfl, rfl, tyX0_ok 11 (by decide), tyX0_ok, nmX0⟩
theorem fl_X5_12 : FL RX5 12 5 0 (.object "FireLeave$Tape") true := ⟨RX5, TX5, 9, tyX5, rfl, inw_X5, by decide, (tw1 115 rfl rfl), rfl, rfl, tyX5_ok 0 (by decide), tyX5_ok, nmX5⟩
theorem fl_X6_58 : FL RX6 58 5 0 (.object "FireLeave$Tape") true := ⟨RX5, TX5, 9, tyX5, rfl, inw_X5, by decide, (tw1 116 rfl rfl), rfl, rfl, tyX5_ok 0 (by decide), tyX5_ok, nmX5⟩
theorem fl_X5_21 : FL RX5 21 5 1 (.object "FireLeave$City") true := ⟨RX5, TX5, 9, tyX5, rfl, inw_X5, by decide, (tw1 117 rfl rfl), rfl, rfl, tyX5_ok 1 (by decide), tyX5_ok, nmX5⟩
theorem fl_X6_84 : FL RX6 84 5 1 (.object "FireLeave$City") true := ⟨RX5, TX5, 9, tyX5, rfl, inw_X5, by decide, (tw1 118 rfl rfl), rfl, rfl, tyX5_ok 1 (by decide), tyX5_ok, nmX5⟩
theorem fl_X5_25 : FL RX5 25 5 2 (.array .int) true := ⟨RX5, TX5, 9, tyX5, rfl, inw_X5, by decide, (tw1 119 rfl rfl), rfl, rfl, tyX5_ok 2 (by decide), tyX5_ok, nmX5⟩
theorem fl_X5_29 : FL RX5 29 5 3 (.array .int) true := ⟨RX5, TX5, 9, tyX5, rfl, inw_X5, by decide, (tw1 120 rfl rfl), rfl, rfl, tyX5_ok 3 (by decide), tyX5_ok, nmX5⟩
theorem fl_X5_38 : FL RX5 38 5 4 .int false := ⟨RX5, TX5, 9, tyX5, rfl, inw_X5, by decide, (tw1 121 rfl rfl), rfl, rfl, tyX5_ok 4 (by decide), tyX5_ok, nmX5⟩
theorem fl_X5_42 : FL RX5 42 5 5 .boolean false := ⟨RX5, TX5, 9, tyX5, rfl, inw_X5, by decide, (tw1 122 rfl rfl), rfl, rfl, tyX5_ok 5 (by decide), tyX5_ok, nmX5⟩
theorem fl_X5_46 : FL RX5 46 5 6 .int false := ⟨RX5, TX5, 9, tyX5, rfl, inw_X5, by decide, (tw1 123 rfl rfl), rfl, rfl, tyX5_ok 6 (by decide), tyX5_ok, nmX5⟩
theorem fl_X6_98 : FL RX6 98 5 6 .int false := ⟨RX5, TX5, 9, tyX5, rfl, inw_X5, by decide, (tw1 124 rfl rfl), rfl, rfl, tyX5_ok 6 (by decide), tyX5_ok, nmX5⟩
theorem fl_X5_49 : FL RX5 49 5 7 .int false := ⟨RX5, TX5, 9, tyX5, rfl, inw_X5, by decide, (tw1 125 rfl rfl), rfl, rfl, tyX5_ok 7 (by decide), tyX5_ok, nmX5⟩
theorem fl_X6_75 : FL RX6 75 5 7 .int false := ⟨RX5, TX5, 9, tyX5, rfl, inw_X5, by decide, (tw1 126 rfl rfl), rfl, rfl, tyX5_ok 7 (by decide), tyX5_ok, nmX5⟩
theorem fl_X5_66 : FL RX5 66 5 8 .int false := ⟨RX5, TX5, 9, tyX5, rfl, inw_X5, by decide, (tw1 127 rfl rfl), rfl, rfl, tyX5_ok 8 (by decide), tyX5_ok, nmX5⟩
theorem fl_X6_81 : FL RX6 81 5 8 .int false := ⟨RX5, TX5, 9, tyX5, rfl, inw_X5, by decide, (tw1 128 rfl rfl), rfl, rfl, tyX5_ok 8 (by decide), tyX5_ok, nmX5⟩
theorem fl_X3_9 : FL RX3 9 3 0 (.array .int) true := ⟨RX3, TX3, 4, tyX3, rfl, inw_X3, by decide, (tw1 156 rfl rfl), rfl, rfl, tyX3_ok 0 (by decide), tyX3_ok, nmX3⟩
theorem fl_X3_15 : FL RX3 15 3 1 (.array .int) true := ⟨RX3, TX3, 4, tyX3, rfl, inw_X3, by decide, (tw1 157 rfl rfl), rfl, rfl, tyX3_ok 1 (by decide), tyX3_ok, nmX3⟩
theorem fl_X3_18 : FL RX3 18 3 2 (.array .int) true := ⟨RX3, TX3, 4, tyX3, rfl, inw_X3, by decide, (tw1 158 rfl rfl), rfl, rfl, tyX3_ok 2 (by decide), tyX3_ok, nmX3⟩
theorem fl_X3_21 : FL RX3 21 3 3 .int false := ⟨RX3, TX3, 4, tyX3, rfl, inw_X3, by decide, (tw1 159 rfl rfl), rfl, rfl, tyX3_ok 3 (by decide), tyX3_ok, nmX3⟩
theorem fl_X6_91 : FL RX6 91 3 3 .int false := ⟨RX3, TX3, 4, tyX3, rfl, inw_X3, by decide, (tw1 160 rfl rfl), rfl, rfl, tyX3_ok 3 (by decide), tyX3_ok, nmX3⟩
theorem fl_X1_10 : FL RX1 10 1 0 (.object "FireLeave$City") true := ⟨RX1, TX1, 3, tyX1, rfl, inw_X1, by decide, (tw1 181 rfl rfl), rfl, rfl, tyX1_ok 0 (by decide), tyX1_ok, nmX1⟩
theorem fl_X6_229 : FL RX6 229 1 0 (.object "FireLeave$City") true := ⟨RX1, TX1, 3, tyX1, rfl, inw_X1, by decide, (tw1 182 rfl rfl), rfl, rfl, tyX1_ok 0 (by decide), tyX1_ok, nmX1⟩
theorem fl_X1_19 : FL RX1 19 1 1 (.object "FireLeave$Sightings") true := ⟨RX1, TX1, 3, tyX1, rfl, inw_X1, by decide, (tw1 183 rfl rfl), rfl, rfl, tyX1_ok 1 (by decide), tyX1_ok, nmX1⟩
theorem fl_X6_232 : FL RX6 232 1 1 (.object "FireLeave$Sightings") true := ⟨RX1, TX1, 3, tyX1, rfl, inw_X1, by decide, (tw1 184 rfl rfl), rfl, rfl, tyX1_ok 1 (by decide), tyX1_ok, nmX1⟩
theorem fl_X6_94 : FL RX6 94 1 2 .boolean false := ⟨RX1, TX1, 3, tyX1, rfl, inw_X1, by decide, (tw1 185 rfl rfl), rfl, rfl, tyX1_ok 2 (by decide), tyX1_ok, nmX1⟩
theorem fl_X2_9 : FL RX2 9 2 0 (.array .int) true := ⟨RX2, TX2, 4, tyX2, rfl, inw_X2, by decide, (tw1 200 rfl rfl), rfl, rfl, tyX2_ok 0 (by decide), tyX2_ok, nmX2⟩
theorem fl_X2_21 : FL RX2 21 2 1 .boolean false := ⟨RX2, TX2, 4, tyX2, rfl, inw_X2, by decide, (tw1 201 rfl rfl), rfl, rfl, tyX2_ok 1 (by decide), tyX2_ok, nmX2⟩
theorem fl_X6_263 : FL RX6 263 2 1 .boolean false := ⟨RX2, TX2, 4, tyX2, rfl, inw_X2, by decide, (tw1 202 rfl rfl), rfl, rfl, tyX2_ok 1 (by decide), tyX2_ok, nmX2⟩
theorem fl_X2_25 : FL RX2 25 2 2 .int false := ⟨RX2, TX2, 4, tyX2, rfl, inw_X2, by decide, (tw1 203 rfl rfl), rfl, rfl, tyX2_ok 2 (by decide), tyX2_ok, nmX2⟩
theorem fl_X6_239 : FL RX6 239 2 2 .int false := ⟨RX2, TX2, 4, tyX2, rfl, inw_X2, by decide, (tw1 204 rfl rfl), rfl, rfl, tyX2_ok 2 (by decide), tyX2_ok, nmX2⟩
theorem fl_X2_29 : FL RX2 29 2 3 .int false := ⟨RX2, TX2, 4, tyX2, rfl, inw_X2, by decide, (tw1 205 rfl rfl), rfl, rfl, tyX2_ok 3 (by decide), tyX2_ok, nmX2⟩
theorem fl_X6_264 : FL RX6 264 2 3 .int false := ⟨RX2, TX2, 4, tyX2, rfl, inw_X2, by decide, (tw1 206 rfl rfl), rfl, rfl, tyX2_ok 3 (by decide), tyX2_ok, nmX2⟩
theorem fl_X6_10 : FL RX6 10 6 0 (.object "FireLeave$TextReader") true := ⟨RX6, TX6, 10, tyX6, rfl, inw_X6, by decide, (tw1 216 rfl rfl), rfl, rfl, tyX6_ok 0 (by decide), tyX6_ok, nmX6⟩
theorem fl_X6_19 : FL RX6 19 6 1 (.object "FireLeave$City") true := ⟨RX6, TX6, 10, tyX6, rfl, inw_X6, by decide, (tw1 217 rfl rfl), rfl, rfl, tyX6_ok 1 (by decide), tyX6_ok, nmX6⟩
theorem fl_X6_23 : FL RX6 23 6 2 (.object "FireLeave$City") true := ⟨RX6, TX6, 10, tyX6, rfl, inw_X6, by decide, (tw1 218 rfl rfl), rfl, rfl, tyX6_ok 2 (by decide), tyX6_ok, nmX6⟩
theorem fl_X6_29 : FL RX6 29 6 3 (.object "FireLeave$Sightings") true := ⟨RX6, TX6, 10, tyX6, rfl, inw_X6, by decide, (tw1 219 rfl rfl), rfl, rfl, tyX6_ok 3 (by decide), tyX6_ok, nmX6⟩
theorem fl_X6_35 : FL RX6 35 6 4 (.array (.object "FireLeave$Image")) true := ⟨RX6, TX6, 10, tyX6, rfl, inw_X6, by decide, (tw1 220 rfl rfl), rfl, rfl, tyX6_ok 4 (by decide), tyX6_ok, nmX6⟩
theorem fl_X6_42 : FL RX6 42 6 5 (.array (.object "FireLeave$Sheet")) true := ⟨RX6, TX6, 10, tyX6, rfl, inw_X6, by decide, (tw1 221 rfl rfl), rfl, rfl, tyX6_ok 5 (by decide), tyX6_ok, nmX6⟩
theorem fl_X6_47 : FL RX6 47 6 6 (.array .int) true := ⟨RX6, TX6, 10, tyX6, rfl, inw_X6, by decide, (tw1 222 rfl rfl), rfl, rfl, tyX6_ok 6 (by decide), tyX6_ok, nmX6⟩
theorem fl_X6_51 : FL RX6 51 6 7 (.array .int) true := ⟨RX6, TX6, 10, tyX6, rfl, inw_X6, by decide, (tw1 223 rfl rfl), rfl, rfl, tyX6_ok 7 (by decide), tyX6_ok, nmX6⟩
theorem fl_X6_78 : FL RX6 78 6 8 .int false := ⟨RX6, TX6, 10, tyX6, rfl, inw_X6, by decide, (tw1 224 rfl rfl), rfl, rfl, tyX6_ok 8 (by decide), tyX6_ok, nmX6⟩
theorem fl_X6_254 : FL RX6 254 6 9 .int false := ⟨RX6, TX6, 10, tyX6, rfl, inw_X6, by decide, (tw1 225 rfl rfl), rfl, rfl, tyX6_ok 9 (by decide), tyX6_ok, nmX6⟩
theorem fl_X7_7 : FL RX7 7 7 0 (.array .int) true := ⟨RX7, TX7, 28, tyX7, rfl, inw_X7, by decide, (tw4 19 rfl rfl), rfl, rfl, tyX7_ok 0 (by decide), tyX7_ok, nmX7⟩
theorem fl_X7_13 : FL RX7 13 7 1 (.array .int) true := ⟨RX7, TX7, 28, tyX7, rfl, inw_X7, by decide, (tw4 20 rfl rfl), rfl, rfl, tyX7_ok 1 (by decide), tyX7_ok, nmX7⟩
theorem fl_X7_16 : FL RX7 16 7 2 (.array .boolean) true := ⟨RX7, TX7, 28, tyX7, rfl, inw_X7, by decide, (tw4 21 rfl rfl), rfl, rfl, tyX7_ok 2 (by decide), tyX7_ok, nmX7⟩
theorem fl_X7_67 : FL RX7 67 7 3 .int false := ⟨RX7, TX7, 28, tyX7, rfl, inw_X7, by decide, (tw4 22 rfl rfl), rfl, rfl, tyX7_ok 3 (by decide), tyX7_ok, nmX7⟩
theorem fl_X7_20 : FL RX7 20 7 4 (.array .int) true := ⟨RX7, TX7, 28, tyX7, rfl, inw_X7, by decide, (tw4 23 rfl rfl), rfl, rfl, tyX7_ok 4 (by decide), tyX7_ok, nmX7⟩
theorem fl_X7_53 : FL RX7 53 7 5 .int false := ⟨RX7, TX7, 28, tyX7, rfl, inw_X7, by decide, (tw4 24 rfl rfl), rfl, rfl, tyX7_ok 5 (by decide), tyX7_ok, nmX7⟩
theorem fl_X7_57 : FL RX7 57 7 6 .boolean false := ⟨RX7, TX7, 28, tyX7, rfl, inw_X7, by decide, (tw4 25 rfl rfl), rfl, rfl, tyX7_ok 6 (by decide), tyX7_ok, nmX7⟩
theorem fl_X7_61 : FL RX7 61 7 7 .int false := ⟨RX7, TX7, 28, tyX7, rfl, inw_X7, by decide, (tw4 26 rfl rfl), rfl, rfl, tyX7_ok 7 (by decide), tyX7_ok, nmX7⟩
theorem fl_X7_23 : FL RX7 23 7 8 (.array .int) true := ⟨RX7, TX7, 28, tyX7, rfl, inw_X7, by decide, (tw4 27 rfl rfl), rfl, rfl, tyX7_ok 8 (by decide), tyX7_ok, nmX7⟩
theorem fl_X7_64 : FL RX7 64 7 9 .int false := ⟨RX7, TX7, 28, tyX7, rfl, inw_X7, by decide, (tw4 28 rfl rfl), rfl, rfl, tyX7_ok 9 (by decide), tyX7_ok, nmX7⟩
theorem fl_X7_26 : FL RX7 26 7 10 (.array .int) true := ⟨RX7, TX7, 28, tyX7, rfl, inw_X7, by decide, (tw4 29 rfl rfl), rfl, rfl, tyX7_ok 10 (by decide), tyX7_ok, nmX7⟩
theorem fl_X7_76 : FL RX7 76 7 11 .int false := ⟨RX7, TX7, 28, tyX7, rfl, inw_X7, by decide, (tw4 30 rfl rfl), rfl, rfl, tyX7_ok 11 (by decide), tyX7_ok, nmX7⟩
theorem fl_X7_88 : FL RX7 88 7 12 .int false := ⟨RX7, TX7, 28, tyX7, rfl, inw_X7, by decide, (tw4 31 rfl rfl), rfl, rfl, tyX7_ok 12 (by decide), tyX7_ok, nmX7⟩
theorem fl_X7_82 : FL RX7 82 7 13 .int false := ⟨RX7, TX7, 28, tyX7, rfl, inw_X7, by decide, (tw4 32 rfl rfl), rfl, rfl, tyX7_ok 13 (by decide), tyX7_ok, nmX7⟩
theorem fl_X7_103 : FL RX7 103 7 14 .int false := ⟨RX7, TX7, 28, tyX7, rfl, inw_X7, by decide, (tw4 33 rfl rfl), rfl, rfl, tyX7_ok 14 (by decide), tyX7_ok, nmX7⟩
theorem fl_X7_114 : FL RX7 114 7 15 .int false := ⟨RX7, TX7, 28, tyX7, rfl, inw_X7, by decide, (tw4 34 rfl rfl), rfl, rfl, tyX7_ok 15 (by decide), tyX7_ok, nmX7⟩
theorem fl_X7_79 : FL RX7 79 7 16 .int false := ⟨RX7, TX7, 28, tyX7, rfl, inw_X7, by decide, (tw4 35 rfl rfl), rfl, rfl, tyX7_ok 16 (by decide), tyX7_ok, nmX7⟩
theorem fl_X7_85 : FL RX7 85 7 17 .int false := ⟨RX7, TX7, 28, tyX7, rfl, inw_X7, by decide, (tw4 36 rfl rfl), rfl, rfl, tyX7_ok 17 (by decide), tyX7_ok, nmX7⟩
theorem fl_X7_242 : FL RX7 242 7 18 .long false := ⟨RX7, TX7, 28, tyX7, rfl, inw_X7, by decide, (tw4 37 rfl rfl), rfl, rfl, tyX7_ok 18 (by decide), tyX7_ok, nmX7⟩
theorem fl_X7_246 : FL RX7 246 7 19 .long false := ⟨RX7, TX7, 28, tyX7, rfl, inw_X7, by decide, (tw4 38 rfl rfl), rfl, rfl, tyX7_ok 19 (by decide), tyX7_ok, nmX7⟩
theorem fl_X7_249 : FL RX7 249 7 20 .long false := ⟨RX7, TX7, 28, tyX7, rfl, inw_X7, by decide, (tw4 39 rfl rfl), rfl, rfl, tyX7_ok 20 (by decide), tyX7_ok, nmX7⟩
theorem fl_X7_29 : FL RX7 29 7 21 (.array .int) true := ⟨RX7, TX7, 28, tyX7, rfl, inw_X7, by decide, (tw4 40 rfl rfl), rfl, rfl, tyX7_ok 21 (by decide), tyX7_ok, nmX7⟩
theorem fl_X7_32 : FL RX7 32 7 22 (.array .int) true := ⟨RX7, TX7, 28, tyX7, rfl, inw_X7, by decide, (tw4 41 rfl rfl), rfl, rfl, tyX7_ok 22 (by decide), tyX7_ok, nmX7⟩
theorem fl_X7_35 : FL RX7 35 7 23 (.array .int) true := ⟨RX7, TX7, 28, tyX7, rfl, inw_X7, by decide, (tw4 42 rfl rfl), rfl, rfl, tyX7_ok 23 (by decide), tyX7_ok, nmX7⟩
theorem fl_X7_38 : FL RX7 38 7 24 (.array .int) true := ⟨RX7, TX7, 28, tyX7, rfl, inw_X7, by decide, (tw4 43 rfl rfl), rfl, rfl, tyX7_ok 24 (by decide), tyX7_ok, nmX7⟩
theorem fl_X7_41 : FL RX7 41 7 25 (.array .int) true := ⟨RX7, TX7, 28, tyX7, rfl, inw_X7, by decide, (tw4 44 rfl rfl), rfl, rfl, tyX7_ok 25 (by decide), tyX7_ok, nmX7⟩
theorem fl_X7_273 : FL RX7 273 7 26 .int false := ⟨RX7, TX7, 28, tyX7, rfl, inw_X7, by decide, (tw4 45 rfl rfl), rfl, rfl, tyX7_ok 26 (by decide), tyX7_ok, nmX7⟩
theorem fl_X7_44 : FL RX7 44 7 27 (.array .int) true := ⟨RX7, TX7, 28, tyX7, rfl, inw_X7, by decide, (tw4 46 rfl rfl), rfl, rfl, tyX7_ok 27 (by decide), tyX7_ok, nmX7⟩
theorem mv_L_13 : MV RL 13 yX6_feed cX6_feed 2 (some .int) 1 := ⟨(tw2 7 rfl rfl), (tw2 8 rfl rfl), (tw2 9 rfl rfl), (tw1 1 rfl rfl), (tw2 10 rfl rfl), ⟨by decide +kernel, by decide +kernel, by decide +kernel⟩⟩
theorem mz_X6_54 : MS RX6 54 yX6_outside cX6_outside 3 (some .boolean) 3 := ⟨(tw2 11 rfl rfl), (tw2 12 rfl rfl), (tw1 1 rfl rfl), (tw2 13 rfl rfl), ⟨by decide +kernel, by decide +kernel, by decide +kernel⟩⟩
theorem mv_X6_62 : MV RX6 62 yX4_append cX4_append 2 (some .boolean) 1 := ⟨(tw2 14 rfl rfl), (tw2 15 rfl rfl), (tw2 16 rfl rfl), (tw1 3 rfl rfl), (tw2 17 rfl rfl), ⟨by decide +kernel, by decide +kernel, by decide +kernel⟩⟩
theorem mv_L_18 : MV RL 18 yX6_end cX6_end 4 (some .int) 1 := ⟨(tw2 18 rfl rfl), (tw2 19 rfl rfl), (tw2 20 rfl rfl), (tw1 1 rfl rfl), (tw2 21 rfl rfl), ⟨by decide +kernel, by decide +kernel, by decide +kernel⟩⟩
theorem mv_L_22 : MV RL 22 yX6_text cX6_text 2 (some .int) 0 := ⟨(tw2 22 rfl rfl), (tw2 23 rfl rfl), (tw2 24 rfl rfl), (tw1 1 rfl rfl), (tw2 25 rfl rfl), ⟨by decide +kernel, by decide +kernel, by decide +kernel⟩⟩
theorem mv_X6_72 : MV RX6 72 yX5_takeText cX5_takeText 3 none 0 := ⟨(tw2 26 rfl rfl), (tw2 27 rfl rfl), (tw2 28 rfl rfl), (tw1 2 rfl rfl), (tw2 29 rfl rfl), ⟨by decide +kernel, by decide +kernel, by decide +kernel⟩⟩
theorem mv_X5_32 : MV RX5 32 yX4_rewind cX4_rewind 1 none 0 := ⟨(tw2 30 rfl rfl), (tw2 31 rfl rfl), (tw2 32 rfl rfl), (tw1 3 rfl rfl), (tw2 33 rfl rfl), ⟨by decide +kernel, by decide +kernel, by decide +kernel⟩⟩
theorem mv_X5_35 : MV RX5 35 yX0_clear cX0_clear 1 none 0 := ⟨(tw2 34 rfl rfl), (tw2 35 rfl rfl), (tw2 36 rfl rfl), (tw1 4 rfl rfl), (tw2 37 rfl rfl), ⟨by decide +kernel, by decide +kernel, by decide +kernel⟩⟩
theorem mv_X5_52 : MV RX5 52 yX4_takeToken cX4_takeToken 2 (some .int) 0 := ⟨(tw2 38 rfl rfl), (tw2 39 rfl rfl), (tw2 40 rfl rfl), (tw1 3 rfl rfl), (tw2 41 rfl rfl), ⟨by decide +kernel, by decide +kernel, by decide +kernel⟩⟩
theorem mv_X4_25 : MV RX4 25 yX4_signAt cX4_signAt 3 (some .int) 1 := ⟨(tw2 42 rfl rfl), (tw2 44 rfl rfl), (tw0 0 rfl rfl), (tw1 3 rfl rfl), (tw2 45 rfl rfl), ⟨by decide +kernel, by decide +kernel, by decide +kernel⟩⟩
theorem mv_X5_56 : MV RX5 56 yX5_takeLine cX5_takeLine 3 none 1 := ⟨(tw2 46 rfl rfl), (tw2 48 rfl rfl), (tw0 1 rfl rfl), (tw1 2 rfl rfl), (tw2 49 rfl rfl), ⟨by decide +kernel, by decide +kernel, by decide +kernel⟩⟩
theorem mv_X5_76 : MV RX5 76 yX5_lineByName cX5_lineByName 1 (some .int) 0 := ⟨(tw2 50 rfl rfl), (tw2 52 rfl rfl), (tw0 2 rfl rfl), (tw1 2 rfl rfl), (tw2 53 rfl rfl), ⟨by decide +kernel, by decide +kernel, by decide +kernel⟩⟩
theorem mv_X5_99 : MV RX5 99 yX4_nameIs cX4_nameIs 3 (some .boolean) 1 := ⟨(tw2 55 rfl rfl), (tw2 56 rfl rfl), (tw2 57 rfl rfl), (tw1 3 rfl rfl), (tw2 58 rfl rfl), ⟨by decide +kernel, by decide +kernel, by decide +kernel⟩⟩
theorem mv_X4_29 : MV RX4 29 yJ0_length_8abf5 cJ0_length_8abf5 1 (some .int) 0 := ⟨(tw2 59 rfl rfl), (tw2 60 rfl rfl), (tw2 61 rfl rfl), (tw1 9 rfl rfl), (tw2 62 rfl rfl), ⟨by decide +kernel, by decide +kernel, by decide +kernel⟩⟩
theorem mv_J0_335 : MV RJ0 335 yJ0_coder_7d493 cJ0_coder_7d493 1 (some .byte) 0 := ⟨(tw2 63 rfl rfl), (tw2 64 rfl rfl), (tw2 65 rfl rfl), (tw1 9 rfl rfl), (tw2 66 rfl rfl), ⟨by decide +kernel, by decide +kernel, by decide +kernel⟩⟩
theorem mv_X4_34 : MV RX4 34 yJ0_charAt_5068e cJ0_charAt_5068e 2 (some .char) 1 := ⟨(tw2 69 rfl rfl), (tw2 70 rfl rfl), (tw2 71 rfl rfl), (tw1 9 rfl rfl), (tw2 72 rfl rfl), ⟨by decide +kernel, by decide +kernel, by decide +kernel⟩⟩
theorem mv_J0_492 : MV RJ0 492 yJ0_isLatin1_aae02 cJ0_isLatin1_aae02 1 (some .boolean) 0 := ⟨(tw2 73 rfl rfl), (tw2 74 rfl rfl), (tw2 75 rfl rfl), (tw1 9 rfl rfl), (tw2 76 rfl rfl), ⟨by decide +kernel, by decide +kernel, by decide +kernel⟩⟩
theorem mz_J0_495 : MS RJ0 495 yJ1_charAt_3b067 cJ1_charAt_3b067 2 (some .char) 2 := ⟨(tw2 77 rfl rfl), (tw2 78 rfl rfl), (tw1 10 rfl rfl), (tw2 79 rfl rfl), ⟨by decide +kernel, by decide +kernel, by decide +kernel⟩⟩
theorem mz_J1_9 : MS RJ1 9 yJ0_checkIndex_df160 cJ0_checkIndex_df160 2 none 2 := ⟨(tw2 80 rfl rfl), (tw2 81 rfl rfl), (tw1 9 rfl rfl), (tw2 82 rfl rfl), ⟨by decide +kernel, by decide +kernel, by decide +kernel⟩⟩
theorem mz_J0_1059 : MS RJ0 1059 yJ3_checkIndex_8e157 cJ3_checkIndex_8e157 3 (some .int) 3 := ⟨(tw2 85 rfl rfl), (tw2 86 rfl rfl), (tw1 11 rfl rfl), (tw2 87 rfl rfl), ⟨by decide +kernel, by decide +kernel, by decide +kernel⟩⟩
theorem mz_J0_498 : MS RJ0 498 yJ2_charAt_3b067 cJ2_charAt_3b067 2 (some .char) 2 := ⟨(tw2 88 rfl rfl), (tw2 89 rfl rfl), (tw1 12 rfl rfl), (tw2 90 rfl rfl), ⟨by decide +kernel, by decide +kernel, by decide +kernel⟩⟩
theorem mz_J2_67 : MS RJ2 67 yJ2_checkIndex_2214a cJ2_checkIndex_2214a 2 none 2 := ⟨(tw2 91 rfl rfl), (tw2 92 rfl rfl), (tw1 12 rfl rfl), (tw2 93 rfl rfl), ⟨by decide +kernel, by decide +kernel, by decide +kernel⟩⟩
theorem mz_J2_48 : MS RJ2 48 yJ2_length_9d52b cJ2_length_9d52b 1 (some .int) 1 := ⟨(tw2 94 rfl rfl), (tw2 95 rfl rfl), (tw1 12 rfl rfl), (tw2 96 rfl rfl), ⟨by decide +kernel, by decide +kernel, by decide +kernel⟩⟩
theorem mz_J2_414 : MS RJ2 414 yJ0_checkIndex_df160 cJ0_checkIndex_df160 2 none 2 := ⟨(tw2 97 rfl rfl), (tw2 81 rfl rfl), (tw1 9 rfl rfl), (tw2 82 rfl rfl), ⟨by decide +kernel, by decide +kernel, by decide +kernel⟩⟩
theorem mz_J2_71 : MS RJ2 71 yJ2_getChar_3b067 cJ2_getChar_3b067 2 (some .char) 2 := ⟨(tw2 98 rfl rfl), (tw2 99 rfl rfl), (tw1 12 rfl rfl), (tw2 100 rfl rfl), ⟨by decide +kernel, by decide +kernel, by decide +kernel⟩⟩
theorem mv_X5_79 : MV RX5 79 yX5_refuseToken cX5_refuseToken 2 none 1 := ⟨(tw2 113 rfl rfl), (tw2 115 rfl rfl), (tw0 3 rfl rfl), (tw1 2 rfl rfl), (tw2 116 rfl rfl), ⟨by decide +kernel, by decide +kernel, by decide +kernel⟩⟩
theorem mv_X5_72 : MV RX5 72 yX5_fail cX5_fail 3 none 2 := ⟨(tw2 117 rfl rfl), (tw2 119 rfl rfl), (tw0 4 rfl rfl), (tw1 2 rfl rfl), (tw2 120 rfl rfl), ⟨by decide +kernel, by decide +kernel, by decide +kernel⟩⟩
theorem mv_X5_82 : MV RX5 82 yX5_takeFire cX5_takeFire 1 none 0 := ⟨(tw2 121 rfl rfl), (tw2 123 rfl rfl), (tw0 5 rfl rfl), (tw1 2 rfl rfl), (tw2 124 rfl rfl), ⟨by decide +kernel, by decide +kernel, by decide +kernel⟩⟩
theorem mv_X5_125 : MV RX5 125 yX5_takeNumber cX5_takeNumber 5 (some .int) 2 := ⟨(tw2 125 rfl rfl), (tw2 127 rfl rfl), (tw0 6 rfl rfl), (tw1 2 rfl rfl), (tw2 128 rfl rfl), ⟨by decide +kernel, by decide +kernel, by decide +kernel⟩⟩
theorem mv_X5_115 : MV RX5 115 yX4_number cX4_number 3 (some .int) 0 := ⟨(tw2 129 rfl rfl), (tw2 130 rfl rfl), (tw2 131 rfl rfl), (tw1 3 rfl rfl), (tw2 132 rfl rfl), ⟨by decide +kernel, by decide +kernel, by decide +kernel⟩⟩
theorem mn_X5_118 : MN RX5 118 yX6_outside "FireLeave" cX6_outside 3 (some .boolean) 3 := ⟨(tq2 133 rfl), (tw2 12 rfl rfl), (tw1 1 rfl rfl), (tw2 13 rfl rfl), ⟨by decide +kernel, by decide +kernel, by decide +kernel⟩⟩
theorem mv_X5_85 : MV RX5 85 yX5_takeRain cX5_takeRain 2 none 0 := ⟨(tw2 134 rfl rfl), (tw2 136 rfl rfl), (tw0 7 rfl rfl), (tw1 2 rfl rfl), (tw2 137 rfl rfl), ⟨by decide +kernel, by decide +kernel, by decide +kernel⟩⟩
theorem mv_X5_88 : MV RX5 88 yX5_takeOffer cX5_takeOffer 1 none 0 := ⟨(tw2 138 rfl rfl), (tw2 140 rfl rfl), (tw0 8 rfl rfl), (tw1 2 rfl rfl), (tw2 141 rfl rfl), ⟨by decide +kernel, by decide +kernel, by decide +kernel⟩⟩
theorem mv_X5_91 : MV RX5 91 yX5_takeHouse cX5_takeHouse 2 none 1 := ⟨(tw2 142 rfl rfl), (tw2 144 rfl rfl), (tw0 9 rfl rfl), (tw1 2 rfl rfl), (tw2 145 rfl rfl), ⟨by decide +kernel, by decide +kernel, by decide +kernel⟩⟩
theorem mv_X5_129 : MV RX5 129 yX0_addHouse cX0_addHouse 3 none 2 := ⟨(tw2 146 rfl rfl), (tw2 147 rfl rfl), (tw2 148 rfl rfl), (tw1 4 rfl rfl), (tw2 149 rfl rfl), ⟨by decide +kernel, by decide +kernel, by decide +kernel⟩⟩
theorem mv_X5_94 : MV RX5 94 yX5_takeStop cX5_takeStop 2 none 0 := ⟨(tw2 150 rfl rfl), (tw2 152 rfl rfl), (tw0 10 rfl rfl), (tw1 2 rfl rfl), (tw2 153 rfl rfl), ⟨by decide +kernel, by decide +kernel, by decide +kernel⟩⟩
theorem mv_X5_60 : MV RX5 60 yX5_checkHouses cX5_checkHouses 2 none 0 := ⟨(tw2 154 rfl rfl), (tw2 156 rfl rfl), (tw0 11 rfl rfl), (tw1 2 rfl rfl), (tw2 157 rfl rfl), ⟨by decide +kernel, by decide +kernel, by decide +kernel⟩⟩
theorem mv_X5_144 : MV RX5 144 yX0_has cX0_has 2 (some .boolean) 1 := ⟨(tw2 158 rfl rfl), (tw2 159 rfl rfl), (tw2 160 rfl rfl), (tw1 4 rfl rfl), (tw2 161 rfl rfl), ⟨by decide +kernel, by decide +kernel, by decide +kernel⟩⟩
theorem mv_X5_63 : MV RX5 63 yX5_makeOffers cX5_makeOffers 2 none 0 := ⟨(tw2 162 rfl rfl), (tw2 164 rfl rfl), (tw0 12 rfl rfl), (tw1 2 rfl rfl), (tw2 165 rfl rfl), ⟨by decide +kernel, by decide +kernel, by decide +kernel⟩⟩
theorem mv_X5_151 : MV RX5 151 yX0_giveAhead cX0_giveAhead 3 (some .int) 2 := ⟨(tw2 166 rfl rfl), (tw2 167 rfl rfl), (tw2 168 rfl rfl), (tw1 4 rfl rfl), (tw2 169 rfl rfl), ⟨by decide +kernel, by decide +kernel, by decide +kernel⟩⟩
theorem mv_X0_61 : MV RX0 61 yX0_has cX0_has 2 (some .boolean) 1 := ⟨(tw2 170 rfl rfl), (tw2 159 rfl rfl), (tw2 160 rfl rfl), (tw1 4 rfl rfl), (tw2 161 rfl rfl), ⟨by decide +kernel, by decide +kernel, by decide +kernel⟩⟩
theorem mn_X0_69 : MN RX0 69 yX6_outside "FireLeave" cX6_outside 3 (some .boolean) 3 := ⟨(tq2 171 rfl), (tw2 12 rfl rfl), (tw1 1 rfl rfl), (tw2 13 rfl rfl), ⟨by decide +kernel, by decide +kernel, by decide +kernel⟩⟩
theorem mv_X0_73 : MV RX0 73 yX0_give cX0_give 3 none 2 := ⟨(tw2 172 rfl rfl), (tw2 174 rfl rfl), (tw0 13 rfl rfl), (tw1 4 rfl rfl), (tw2 175 rfl rfl), ⟨by decide +kernel, by decide +kernel, by decide +kernel⟩⟩
theorem mz_X0_91 : MS RX0 91 yJ9_max_7cf53 cJ9_max_7cf53 2 (some .int) 2 := ⟨(tw2 176 rfl rfl), (tw2 177 rfl rfl), (tw1 13 rfl rfl), (tw2 178 rfl rfl), ⟨by decide +kernel, by decide +kernel, by decide +kernel⟩⟩
theorem mv_X6_87 : MV RX6 87 yX0_becomeLike cX0_becomeLike 2 none 1 := ⟨(tw2 179 rfl rfl), (tw2 180 rfl rfl), (tw2 181 rfl rfl), (tw1 4 rfl rfl), (tw2 182 rfl rfl), ⟨by decide +kernel, by decide +kernel, by decide +kernel⟩⟩
theorem mv_L_27 : MV RL 27 yX6_fault cX6_fault 1 (some .int) 0 := ⟨(tw2 186 rfl rfl), (tw2 187 rfl rfl), (tw2 188 rfl rfl), (tw1 1 rfl rfl), (tw2 189 rfl rfl), ⟨by decide +kernel, by decide +kernel, by decide +kernel⟩⟩
theorem mv_L_31 : MV RL 31 yX6_rule cX6_rule 2 (some .int) 1 := ⟨(tw2 190 rfl rfl), (tw2 191 rfl rfl), (tw2 192 rfl rfl), (tw1 1 rfl rfl), (tw2 193 rfl rfl), ⟨by decide +kernel, by decide +kernel, by decide +kernel⟩⟩
theorem mv_X6_125 : MV RX6 125 yX0_allWorth cX0_allWorth 3 (some .int) 0 := ⟨(tw2 194 rfl rfl), (tw2 195 rfl rfl), (tw2 196 rfl rfl), (tw1 4 rfl rfl), (tw2 197 rfl rfl), ⟨by decide +kernel, by decide +kernel, by decide +kernel⟩⟩
theorem mv_L_35 : MV RL 35 yX6_house cX6_house 3 (some .int) 2 := ⟨(tw2 198 rfl rfl), (tw2 199 rfl rfl), (tw2 200 rfl rfl), (tw1 1 rfl rfl), (tw2 201 rfl rfl), ⟨by decide +kernel, by decide +kernel, by decide +kernel⟩⟩
theorem mv_X6_129 : MV RX6 129 yX0_has cX0_has 2 (some .boolean) 1 := ⟨(tw2 202 rfl rfl), (tw2 159 rfl rfl), (tw2 160 rfl rfl), (tw1 4 rfl rfl), (tw2 161 rfl rfl), ⟨by decide +kernel, by decide +kernel, by decide +kernel⟩⟩
theorem mv_L_40 : MV RL 40 yX6_alter cX6_alter 6 (some .int) 3 := ⟨(tw2 203 rfl rfl), (tw2 204 rfl rfl), (tw2 205 rfl rfl), (tw1 1 rfl rfl), (tw2 206 rfl rfl), ⟨by decide +kernel, by decide +kernel, by decide +kernel⟩⟩
theorem mv_L_45 : MV RL 45 yX6_set cX6_set 4 (some .int) 2 := ⟨(tw2 207 rfl rfl), (tw2 208 rfl rfl), (tw2 209 rfl rfl), (tw1 1 rfl rfl), (tw2 210 rfl rfl), ⟨by decide +kernel, by decide +kernel, by decide +kernel⟩⟩
theorem mv_L_49 : MV RL 49 yX6_rain cX6_rain 5 (some .int) 2 := ⟨(tw2 211 rfl rfl), (tw2 212 rfl rfl), (tw2 213 rfl rfl), (tw1 1 rfl rfl), (tw2 214 rfl rfl), ⟨by decide +kernel, by decide +kernel, by decide +kernel⟩⟩
theorem mv_L_54 : MV RL 54 yX6_offer cX6_offer 3 (some .int) 2 := ⟨(tw2 215 rfl rfl), (tw2 216 rfl rfl), (tw2 217 rfl rfl), (tw1 1 rfl rfl), (tw2 218 rfl rfl), ⟨by decide +kernel, by decide +kernel, by decide +kernel⟩⟩
theorem mv_X6_141 : MV RX6 141 yX0_giveAhead cX0_giveAhead 3 (some .int) 2 := ⟨(tw2 219 rfl rfl), (tw2 167 rfl rfl), (tw2 168 rfl rfl), (tw1 4 rfl rfl), (tw2 169 rfl rfl), ⟨by decide +kernel, by decide +kernel, by decide +kernel⟩⟩
theorem mv_L_58 : MV RL 58 yX6_go cX6_go 3 (some .int) 1 := ⟨(tw2 220 rfl rfl), (tw2 221 rfl rfl), (tw2 222 rfl rfl), (tw1 1 rfl rfl), (tw2 223 rfl rfl), ⟨by decide +kernel, by decide +kernel, by decide +kernel⟩⟩
theorem mv_X6_145 : MV RX6 145 yX0_passNights cX0_passNights 3 none 1 := ⟨(tw2 224 rfl rfl), (tw2 225 rfl rfl), (tw2 226 rfl rfl), (tw1 4 rfl rfl), (tw2 227 rfl rfl), ⟨by decide +kernel, by decide +kernel, by decide +kernel⟩⟩
theorem mv_X0_77 : MV RX0 77 yX0_passNight cX0_passNight 1 none 0 := ⟨(tw2 228 rfl rfl), (tw2 229 rfl rfl), (tw2 230 rfl rfl), (tw1 4 rfl rfl), (tw2 231 rfl rfl), ⟨by decide +kernel, by decide +kernel, by decide +kernel⟩⟩
theorem mv_X0_80 : MV RX0 80 yX0_ask cX0_ask 3 none 0 := ⟨(tw2 232 rfl rfl), (tw2 233 rfl rfl), (tw2 234 rfl rfl), (tw1 4 rfl rfl), (tw2 235 rfl rfl), ⟨by decide +kernel, by decide +kernel, by decide +kernel⟩⟩
theorem mz_X0_83 : MS RX0 83 yJ9_min_7cf53 cJ9_min_7cf53 2 (some .int) 2 := ⟨(tw2 236 rfl rfl), (tw2 237 rfl rfl), (tw1 13 rfl rfl), (tw2 238 rfl rfl), ⟨by decide +kernel, by decide +kernel, by decide +kernel⟩⟩
theorem mv_X0_88 : MV RX0 88 yX0_burn cX0_burn 4 (some .int) 2 := ⟨(tw2 239 rfl rfl), (tw3 1 rfl rfl), (tw0 14 rfl rfl), (tw1 4 rfl rfl), (tw3 2 rfl rfl), ⟨by decide +kernel, by decide +kernel, by decide +kernel⟩⟩
theorem mv_L_62 : MV RL 62 yX6_runs cX6_runs 5 (some .int) 2 := ⟨(tw3 3 rfl rfl), (tw3 4 rfl rfl), (tw3 5 rfl rfl), (tw1 1 rfl rfl), (tw3 6 rfl rfl), ⟨by decide +kernel, by decide +kernel, by decide +kernel⟩⟩
theorem mv_X6_149 : MV RX6 149 yX6_startTrial cX6_startTrial 1 none 0 := ⟨(tw3 7 rfl rfl), (tw3 9 rfl rfl), (tw0 15 rfl rfl), (tw1 1 rfl rfl), (tw3 10 rfl rfl), ⟨by decide +kernel, by decide +kernel, by decide +kernel⟩⟩
theorem mv_X6_265 : MV RX6 265 yX0_forgetLoss cX0_forgetLoss 1 none 0 := ⟨(tw3 11 rfl rfl), (tw3 12 rfl rfl), (tw3 13 rfl rfl), (tw1 4 rfl rfl), (tw3 14 rfl rfl), ⟨by decide +kernel, by decide +kernel, by decide +kernel⟩⟩
theorem mz_X0_55 : MS RX0 55 yJ7_fill_53178 cJ7_fill_53178 4 none 2 := ⟨(tw3 15 rfl rfl), (tw3 16 rfl rfl), (tw1 15 rfl rfl), (tw3 17 rfl rfl), ⟨by decide +kernel, by decide +kernel, by decide +kernel⟩⟩
theorem mv_X6_152 : MV RX6 152 yX0_passNight cX0_passNight 1 none 0 := ⟨(tw3 18 rfl rfl), (tw2 229 rfl rfl), (tw2 230 rfl rfl), (tw1 4 rfl rfl), (tw2 231 rfl rfl), ⟨by decide +kernel, by decide +kernel, by decide +kernel⟩⟩
theorem mv_L_66 : MV RL 66 yX6_ahead cX6_ahead 3 (some .int) 2 := ⟨(tw3 19 rfl rfl), (tw3 20 rfl rfl), (tw3 21 rfl rfl), (tw1 1 rfl rfl), (tw3 22 rfl rfl), ⟨by decide +kernel, by decide +kernel, by decide +kernel⟩⟩
theorem mv_L_70 : MV RL 70 yX6_bare cX6_bare 3 (some .int) 1 := ⟨(tw3 23 rfl rfl), (tw3 24 rfl rfl), (tw3 25 rfl rfl), (tw1 1 rfl rfl), (tw3 26 rfl rfl), ⟨by decide +kernel, by decide +kernel, by decide +kernel⟩⟩
theorem mv_L_74 : MV RL 74 yX6_best cX6_best 9 (some .int) 2 := ⟨(tw3 27 rfl rfl), (tw3 28 rfl rfl), (tw3 29 rfl rfl), (tw1 1 rfl rfl), (tw3 30 rfl rfl), ⟨by decide +kernel, by decide +kernel, by decide +kernel⟩⟩
theorem mv_X6_155 : MV RX6 155 yX0_allKinds cX0_allKinds 1 (some .int) 0 := ⟨(tw3 31 rfl rfl), (tw3 32 rfl rfl), (tw3 33 rfl rfl), (tw1 4 rfl rfl), (tw3 34 rfl rfl), ⟨by decide +kernel, by decide +kernel, by decide +kernel⟩⟩
theorem mv_X6_158 : MV RX6 158 yX6_lossByKinds cX6_lossByKinds 3 (some .int) 2 := ⟨(tw3 35 rfl rfl), (tw3 37 rfl rfl), (tw0 16 rfl rfl), (tw1 1 rfl rfl), (tw3 38 rfl rfl), ⟨by decide +kernel, by decide +kernel, by decide +kernel⟩⟩
theorem mv_X6_268 : MV RX6 268 yX0_putKinds cX0_putKinds 3 none 1 := ⟨(tw3 39 rfl rfl), (tw3 40 rfl rfl), (tw3 41 rfl rfl), (tw1 4 rfl rfl), (tw3 42 rfl rfl), ⟨by decide +kernel, by decide +kernel, by decide +kernel⟩⟩
theorem mv_X0_65 : MV RX0 65 yX0_kindBy cX0_kindBy 3 (some .int) 2 := ⟨(tw3 43 rfl rfl), (tw3 44 rfl rfl), (tw3 45 rfl rfl), (tw1 4 rfl rfl), (tw3 46 rfl rfl), ⟨by decide +kernel, by decide +kernel, by decide +kernel⟩⟩
theorem mv_X6_172 : MV RX6 172 yX0_loss cX0_loss 1 (some .int) 0 := ⟨(tw3 47 rfl rfl), (tw3 48 rfl rfl), (tw3 49 rfl rfl), (tw1 4 rfl rfl), (tw3 50 rfl rfl), ⟨by decide +kernel, by decide +kernel, by decide +kernel⟩⟩
theorem mv_X6_161 : MV RX6 161 yX0_kindBy cX0_kindBy 3 (some .int) 2 := ⟨(tw3 51 rfl rfl), (tw3 44 rfl rfl), (tw3 45 rfl rfl), (tw1 4 rfl rfl), (tw3 46 rfl rfl), ⟨by decide +kernel, by decide +kernel, by decide +kernel⟩⟩
theorem mv_L_78 : MV RL 78 yX6_change cX6_change 8 (some .int) 2 := ⟨(tw3 52 rfl rfl), (tw3 53 rfl rfl), (tw3 54 rfl rfl), (tw1 1 rfl rfl), (tw3 55 rfl rfl), ⟨by decide +kernel, by decide +kernel, by decide +kernel⟩⟩
theorem mv_X6_164 : MV RX6 164 yX6_lossAsItIs cX6_lossAsItIs 2 (some .int) 1 := ⟨(tw3 56 rfl rfl), (tw3 58 rfl rfl), (tw0 17 rfl rfl), (tw1 1 rfl rfl), (tw3 59 rfl rfl), ⟨by decide +kernel, by decide +kernel, by decide +kernel⟩⟩
theorem mv_X6_168 : MV RX6 168 yX6_playWith cX6_playWith 4 (some (.object "FireLeave$City")) 3 := ⟨(tw3 60 rfl rfl), (tw3 62 rfl rfl), (tw0 18 rfl rfl), (tw1 1 rfl rfl), (tw3 63 rfl rfl), ⟨by decide +kernel, by decide +kernel, by decide +kernel⟩⟩
theorem mv_X6_271 : MV RX6 271 yX0_putKindIn cX0_putKindIn 4 none 2 := ⟨(tw3 64 rfl rfl), (tw3 65 rfl rfl), (tw3 66 rfl rfl), (tw1 4 rfl rfl), (tw3 67 rfl rfl), ⟨by decide +kernel, by decide +kernel, by decide +kernel⟩⟩
theorem mv_L_82 : MV RL 82 yX6_cooks cX6_cooks 7 (some .int) 2 := ⟨(tw3 68 rfl rfl), (tw3 69 rfl rfl), (tw3 70 rfl rfl), (tw1 1 rfl rfl), (tw3 71 rfl rfl), ⟨by decide +kernel, by decide +kernel, by decide +kernel⟩⟩
theorem mz_X6_175 : MS RX6 175 yJ6_bitCount_0f7a4 cJ6_bitCount_0f7a4 1 (some .int) 1 := ⟨(tw3 72 rfl rfl), (tw3 73 rfl rfl), (tw1 16 rfl rfl), (tw3 74 rfl rfl), ⟨by decide +kernel, by decide +kernel, by decide +kernel⟩⟩
theorem mv_L_86 : MV RL 86 yX6_appease cX6_appease 4 (some .int) 2 := ⟨(tw3 78 rfl rfl), (tw3 79 rfl rfl), (tw3 80 rfl rfl), (tw1 1 rfl rfl), (tw3 81 rfl rfl), ⟨by decide +kernel, by decide +kernel, by decide +kernel⟩⟩
theorem mv_L_90 : MV RL 90 yX6_pray cX6_pray 5 (some .int) 1 := ⟨(tw3 82 rfl rfl), (tw3 83 rfl rfl), (tw3 84 rfl rfl), (tw1 1 rfl rfl), (tw3 85 rfl rfl), ⟨by decide +kernel, by decide +kernel, by decide +kernel⟩⟩
theorem mv_L_94 : MV RL 94 yX6_value cX6_value 3 (some .int) 2 := ⟨(tw3 86 rfl rfl), (tw3 87 rfl rfl), (tw3 88 rfl rfl), (tw1 1 rfl rfl), (tw3 89 rfl rfl), ⟨by decide +kernel, by decide +kernel, by decide +kernel⟩⟩
theorem mv_L_98 : MV RL 98 yX6_share cX6_share 10 (some .long) 3 := ⟨(tw3 90 rfl rfl), (tw3 91 rfl rfl), (tw3 92 rfl rfl), (tw1 1 rfl rfl), (tw3 93 rfl rfl), ⟨by decide +kernel, by decide +kernel, by decide +kernel⟩⟩
theorem mz_X6_185 : MS RX6 185 yX6_factorial cX6_factorial 1 (some .long) 1 := ⟨(tw3 95 rfl rfl), (tw3 96 rfl rfl), (tw1 1 rfl rfl), (tw3 97 rfl rfl), ⟨by decide +kernel, by decide +kernel, by decide +kernel⟩⟩
theorem mz_X6_189 : MS RX6 189 yX6_partOfFraction cX6_partOfFraction 7 (some .long) 3 := ⟨(tw3 100 rfl rfl), (tw3 101 rfl rfl), (tw1 1 rfl rfl), (tw3 102 rfl rfl), ⟨by decide +kernel, by decide +kernel, by decide +kernel⟩⟩
theorem mz_X6_277 : MS RX6 277 yJ9_abs_067f4 cJ9_abs_067f4 2 (some .long) 1 := ⟨(tw3 103 rfl rfl), (tw3 104 rfl rfl), (tw1 13 rfl rfl), (tw3 105 rfl rfl), ⟨by decide +kernel, by decide +kernel, by decide +kernel⟩⟩
theorem mz_X6_283 : MS RX6 283 yX6_commonDivisor cX6_commonDivisor 11 (some .long) 2 := ⟨(tw3 106 rfl rfl), (tw3 107 rfl rfl), (tw1 1 rfl rfl), (tw3 108 rfl rfl), ⟨by decide +kernel, by decide +kernel, by decide +kernel⟩⟩
theorem mv_L_103 : MV RL 103 yX6_luck cX6_luck 7 (some .long) 3 := ⟨(tw3 109 rfl rfl), (tw3 110 rfl rfl), (tw3 111 rfl rfl), (tw1 1 rfl rfl), (tw3 112 rfl rfl), ⟨by decide +kernel, by decide +kernel, by decide +kernel⟩⟩
theorem mv_X6_193 : MV RX6 193 yX6_oddsOfOut cX6_oddsOfOut 4 (some .long) 2 := ⟨(tw3 113 rfl rfl), (tw3 115 rfl rfl), (tw0 19 rfl rfl), (tw1 1 rfl rfl), (tw3 116 rfl rfl), ⟨by decide +kernel, by decide +kernel, by decide +kernel⟩⟩
theorem mz_X6_197 : MS RX6 197 yX6_power cX6_power 5 (some .long) 2 := ⟨(tw3 117 rfl rfl), (tw3 118 rfl rfl), (tw1 1 rfl rfl), (tw3 119 rfl rfl), ⟨by decide +kernel, by decide +kernel, by decide +kernel⟩⟩
theorem mv_L_107 : MV RL 107 yX6_mean cX6_mean 7 (some .long) 3 := ⟨(tw3 120 rfl rfl), (tw3 121 rfl rfl), (tw3 122 rfl rfl), (tw1 1 rfl rfl), (tw3 123 rfl rfl), ⟨by decide +kernel, by decide +kernel, by decide +kernel⟩⟩
theorem mv_L_111 : MV RL 111 yX6_see cX6_see 4 (some .int) 3 := ⟨(tw3 124 rfl rfl), (tw3 125 rfl rfl), (tw3 126 rfl rfl), (tw1 1 rfl rfl), (tw3 127 rfl rfl), ⟨by decide +kernel, by decide +kernel, by decide +kernel⟩⟩
theorem mv_X6_200 : MV RX6 200 yX3_append cX3_append 4 (some .boolean) 3 := ⟨(tw3 128 rfl rfl), (tw3 129 rfl rfl), (tw3 130 rfl rfl), (tw1 5 rfl rfl), (tw3 131 rfl rfl), ⟨by decide +kernel, by decide +kernel, by decide +kernel⟩⟩
theorem mv_L_115 : MV RL 115 yX6_forget cX6_forget 3 (some .int) 1 := ⟨(tw3 132 rfl rfl), (tw3 133 rfl rfl), (tw3 134 rfl rfl), (tw1 1 rfl rfl), (tw3 135 rfl rfl), ⟨by decide +kernel, by decide +kernel, by decide +kernel⟩⟩
theorem mv_L_119 : MV RL 119 yX6_fits cX6_fits 9 (some .int) 1 := ⟨(tw3 136 rfl rfl), (tw3 137 rfl rfl), (tw3 138 rfl rfl), (tw1 1 rfl rfl), (tw3 139 rfl rfl), ⟨by decide +kernel, by decide +kernel, by decide +kernel⟩⟩
theorem mv_X6_202 : MV RX6 202 yX3_mostNights cX3_mostNights 3 (some .int) 0 := ⟨(tw3 140 rfl rfl), (tw3 141 rfl rfl), (tw3 142 rfl rfl), (tw1 5 rfl rfl), (tw3 143 rfl rfl), ⟨by decide +kernel, by decide +kernel, by decide +kernel⟩⟩
theorem mz_X3_31 : MS RX3 31 yJ9_max_7cf53 cJ9_max_7cf53 2 (some .int) 2 := ⟨(tw3 144 rfl rfl), (tw2 177 rfl rfl), (tw1 13 rfl rfl), (tw2 178 rfl rfl), ⟨by decide +kernel, by decide +kernel, by decide +kernel⟩⟩
theorem mv_X6_205 : MV RX6 205 yX6_tryKinds cX6_tryKinds 5 none 2 := ⟨(tw3 145 rfl rfl), (tw3 147 rfl rfl), (tw0 20 rfl rfl), (tw1 1 rfl rfl), (tw3 148 rfl rfl), ⟨by decide +kernel, by decide +kernel, by decide +kernel⟩⟩
theorem mz_X6_216 : MS RX6 216 yX6_slot cX6_slot 2 (some .int) 2 := ⟨(tw3 149 rfl rfl), (tw3 150 rfl rfl), (tw1 1 rfl rfl), (tw3 151 rfl rfl), ⟨by decide +kernel, by decide +kernel, by decide +kernel⟩⟩
theorem mv_X6_209 : MV RX6 209 yX3_agreesWith cX3_agreesWith 3 (some .boolean) 1 := ⟨(tw3 152 rfl rfl), (tw3 153 rfl rfl), (tw3 154 rfl rfl), (tw1 5 rfl rfl), (tw3 155 rfl rfl), ⟨by decide +kernel, by decide +kernel, by decide +kernel⟩⟩
theorem mn_X3_37 : MN RX3 37 yX6_slot "FireLeave" cX6_slot 2 (some .int) 2 := ⟨(tq3 156 rfl), (tw3 150 rfl rfl), (tw1 1 rfl rfl), (tw3 151 rfl rfl), ⟨by decide +kernel, by decide +kernel, by decide +kernel⟩⟩
theorem mv_L_123 : MV RL 123 yX6_look cX6_look 7 (some .int) 1 := ⟨(tw3 157 rfl rfl), (tw3 158 rfl rfl), (tw3 159 rfl rfl), (tw1 1 rfl rfl), (tw3 160 rfl rfl), ⟨by decide +kernel, by decide +kernel, by decide +kernel⟩⟩
theorem mv_X6_213 : MV RX6 213 yX6_tallyFitting cX6_tallyFitting 6 (some .int) 0 := ⟨(tw3 161 rfl rfl), (tw3 163 rfl rfl), (tw0 21 rfl rfl), (tw1 1 rfl rfl), (tw3 164 rfl rfl), ⟨by decide +kernel, by decide +kernel, by decide +kernel⟩⟩
theorem mz_X6_287 : MS RX6 287 yJ7_fill_53178 cJ7_fill_53178 4 none 2 := ⟨(tw3 165 rfl rfl), (tw3 16 rfl rfl), (tw1 15 rfl rfl), (tw3 17 rfl rfl), ⟨by decide +kernel, by decide +kernel, by decide +kernel⟩⟩
theorem mv_X6_219 : MV RX6 219 yX6_mostInRow cX6_mostInRow 5 (some .int) 1 := ⟨(tw3 166 rfl rfl), (tw3 168 rfl rfl), (tw0 22 rfl rfl), (tw1 1 rfl rfl), (tw3 169 rfl rfl), ⟨by decide +kernel, by decide +kernel, by decide +kernel⟩⟩
theorem mz_X6_293 : MS RX6 293 yJ9_max_7cf53 cJ9_max_7cf53 2 (some .int) 2 := ⟨(tw3 170 rfl rfl), (tw2 177 rfl rfl), (tw1 13 rfl rfl), (tw2 178 rfl rfl), ⟨by decide +kernel, by decide +kernel, by decide +kernel⟩⟩
theorem mv_L_127 : MV RL 127 yX6_drift cX6_drift 7 (some .int) 3 := ⟨(tw3 171 rfl rfl), (tw3 172 rfl rfl), (tw3 173 rfl rfl), (tw1 1 rfl rfl), (tw3 174 rfl rfl), ⟨by decide +kernel, by decide +kernel, by decide +kernel⟩⟩
theorem mv_X6_223 : MV RX6 223 yX0_putKind cX0_putKind 3 none 2 := ⟨(tw3 176 rfl rfl), (tw3 177 rfl rfl), (tw3 178 rfl rfl), (tw1 4 rfl rfl), (tw3 179 rfl rfl), ⟨by decide +kernel, by decide +kernel, by decide +kernel⟩⟩
theorem mv_X6_226 : MV RX6 226 yX0_ask cX0_ask 3 none 0 := ⟨(tw3 180 rfl rfl), (tw2 233 rfl rfl), (tw2 234 rfl rfl), (tw1 4 rfl rfl), (tw2 235 rfl rfl), ⟨by decide +kernel, by decide +kernel, by decide +kernel⟩⟩
theorem mv_L_131 : MV RL 131 yX6_keep cX6_keep 4 (some .int) 1 := ⟨(tw3 181 rfl rfl), (tw3 182 rfl rfl), (tw3 183 rfl rfl), (tw1 1 rfl rfl), (tw3 184 rfl rfl), ⟨by decide +kernel, by decide +kernel, by decide +kernel⟩⟩
theorem mv_X6_233 : MV RX6 233 yX3_becomeLike cX3_becomeLike 2 none 1 := ⟨(tw3 185 rfl rfl), (tw3 186 rfl rfl), (tw3 187 rfl rfl), (tw1 5 rfl rfl), (tw3 188 rfl rfl), ⟨by decide +kernel, by decide +kernel, by decide +kernel⟩⟩
theorem mv_L_135 : MV RL 135 yX6_back cX6_back 3 (some .int) 1 := ⟨(tw3 190 rfl rfl), (tw3 191 rfl rfl), (tw3 192 rfl rfl), (tw1 1 rfl rfl), (tw3 193 rfl rfl), ⟨by decide +kernel, by decide +kernel, by decide +kernel⟩⟩
theorem mv_L_139 : MV RL 139 yX6_sheet cX6_sheet 4 (some .int) 3 := ⟨(tw3 194 rfl rfl), (tw3 195 rfl rfl), (tw3 196 rfl rfl), (tw1 1 rfl rfl), (tw3 197 rfl rfl), ⟨by decide +kernel, by decide +kernel, by decide +kernel⟩⟩
theorem mv_X6_236 : MV RX6 236 yX2_renew cX2_renew 3 none 2 := ⟨(tw3 198 rfl rfl), (tw3 199 rfl rfl), (tw3 200 rfl rfl), (tw1 7 rfl rfl), (tw3 201 rfl rfl), ⟨by decide +kernel, by decide +kernel, by decide +kernel⟩⟩
theorem mz_X2_15 : MS RX2 15 yJ7_fill_53178 cJ7_fill_53178 4 none 2 := ⟨(tw3 202 rfl rfl), (tw3 16 rfl rfl), (tw1 15 rfl rfl), (tw3 17 rfl rfl), ⟨by decide +kernel, by decide +kernel, by decide +kernel⟩⟩
theorem mv_L_143 : MV RL 143 yX6_lay cX6_lay 6 (some .int) 3 := ⟨(tw3 203 rfl rfl), (tw3 204 rfl rfl), (tw3 205 rfl rfl), (tw1 1 rfl rfl), (tw3 206 rfl rfl), ⟨by decide +kernel, by decide +kernel, by decide +kernel⟩⟩
theorem mv_X6_242 : MV RX6 242 yX2_tearAt cX2_tearAt 3 (some .int) 2 := ⟨(tw3 207 rfl rfl), (tw3 208 rfl rfl), (tw3 209 rfl rfl), (tw1 7 rfl rfl), (tw3 210 rfl rfl), ⟨by decide +kernel, by decide +kernel, by decide +kernel⟩⟩
theorem mn_X2_32 : MN RX2 32 yX6_outside "FireLeave" cX6_outside 3 (some .boolean) 3 := ⟨(tq3 211 rfl), (tw2 12 rfl rfl), (tw1 1 rfl rfl), (tw2 13 rfl rfl), ⟨by decide +kernel, by decide +kernel, by decide +kernel⟩⟩
theorem mv_X6_245 : MV RX6 245 yX2_put cX2_put 3 none 2 := ⟨(tw3 212 rfl rfl), (tw3 213 rfl rfl), (tw3 214 rfl rfl), (tw1 7 rfl rfl), (tw3 215 rfl rfl), ⟨by decide +kernel, by decide +kernel, by decide +kernel⟩⟩
theorem mv_L_147 : MV RL 147 yX6_read cX6_read 9 (some .int) 4 := ⟨(tw3 216 rfl rfl), (tw3 217 rfl rfl), (tw3 218 rfl rfl), (tw1 1 rfl rfl), (tw3 219 rfl rfl), ⟨by decide +kernel, by decide +kernel, by decide +kernel⟩⟩
theorem mv_X6_248 : MV RX6 248 yX2_tearOfPair cX2_tearOfPair 4 (some .int) 2 := ⟨(tw3 220 rfl rfl), (tw3 221 rfl rfl), (tw3 222 rfl rfl), (tw1 7 rfl rfl), (tw3 223 rfl rfl), ⟨by decide +kernel, by decide +kernel, by decide +kernel⟩⟩
theorem mv_X2_36 : MV RX2 36 yX2_tearAt cX2_tearAt 3 (some .int) 2 := ⟨(tw3 224 rfl rfl), (tw3 208 rfl rfl), (tw3 209 rfl rfl), (tw1 7 rfl rfl), (tw3 210 rfl rfl), ⟨by decide +kernel, by decide +kernel, by decide +kernel⟩⟩
theorem mv_X6_251 : MV RX6 251 yX2_cellAt cX2_cellAt 2 (some .int) 1 := ⟨(tw3 225 rfl rfl), (tw3 226 rfl rfl), (tw3 227 rfl rfl), (tw1 7 rfl rfl), (tw3 228 rfl rfl), ⟨by decide +kernel, by decide +kernel, by decide +kernel⟩⟩
theorem mv_L_152 : MV RL 152 yX6_torn cX6_torn 1 (some .int) 0 := ⟨(tw3 229 rfl rfl), (tw3 230 rfl rfl), (tw3 231 rfl rfl), (tw1 1 rfl rfl), (tw3 232 rfl rfl), ⟨by decide +kernel, by decide +kernel, by decide +kernel⟩⟩
theorem mv_L_156 : MV RL 156 yX6_count cX6_count 2 (some .int) 1 := ⟨(tw3 233 rfl rfl), (tw3 234 rfl rfl), (tw3 235 rfl rfl), (tw1 1 rfl rfl), (tw3 236 rfl rfl), ⟨by decide +kernel, by decide +kernel, by decide +kernel⟩⟩
theorem mv_X6_257 : MV RX6 257 yX0_allLost cX0_allLost 3 (some .int) 0 := ⟨(tw3 237 rfl rfl), (tw3 238 rfl rfl), (tw3 239 rfl rfl), (tw1 4 rfl rfl), (tw4 0 rfl rfl), ⟨by decide +kernel, by decide +kernel, by decide +kernel⟩⟩
theorem mv_X6_260 : MV RX6 260 yX6_imagesKept cX6_imagesKept 3 (some .int) 0 := ⟨(tw4 1 rfl rfl), (tw4 3 rfl rfl), (tw0 23 rfl rfl), (tw1 1 rfl rfl), (tw4 4 rfl rfl), ⟨by decide +kernel, by decide +kernel, by decide +kernel⟩⟩
theorem mv_X7_47 : MV RX7 47 yX7_firstDraft cX7_firstDraft 2 none 0 := ⟨(tw4 11 rfl rfl), (tw4 13 rfl rfl), (tw0 24 rfl rfl), (tw1 8 rfl rfl), (tw4 14 rfl rfl), ⟨by decide +kernel, by decide +kernel, by decide +kernel⟩⟩
theorem mv_X7_50 : MV RX7 50 yX7_keepDraft cX7_keepDraft 2 none 0 := ⟨(tw4 15 rfl rfl), (tw4 17 rfl rfl), (tw0 25 rfl rfl), (tw1 8 rfl rfl), (tw4 18 rfl rfl), ⟨by decide +kernel, by decide +kernel, by decide +kernel⟩⟩
theorem mv_L_17 : MV RL 17 yX7_feed cX7_feed 2 (some .int) 1 := ⟨(tw4 105 rfl rfl), (tw4 106 rfl rfl), (tw4 107 rfl rfl), (tw1 8 rfl rfl), (tw4 108 rfl rfl), ⟨by decide +kernel, by decide +kernel, by decide +kernel⟩⟩
theorem mz_X7_72 : MS RX7 72 yX7_in cX7_in 6 (some .boolean) 3 := ⟨(tw4 110 rfl rfl), (tw4 111 rfl rfl), (tw1 8 rfl rfl), (tw4 112 rfl rfl), ⟨by decide +kernel, by decide +kernel, by decide +kernel⟩⟩
theorem mv_L_21 : MV RL 21 yX7_end cX7_end 3 (some .int) 1 := ⟨(tw4 113 rfl rfl), (tw4 114 rfl rfl), (tw4 115 rfl rfl), (tw1 8 rfl rfl), (tw4 116 rfl rfl), ⟨by decide +kernel, by decide +kernel, by decide +kernel⟩⟩
theorem mv_L_26 : MV RL 26 yX7_text cX7_text 2 (some .int) 0 := ⟨(tw4 117 rfl rfl), (tw4 118 rfl rfl), (tw4 119 rfl rfl), (tw1 8 rfl rfl), (tw4 120 rfl rfl), ⟨by decide +kernel, by decide +kernel, by decide +kernel⟩⟩
theorem mv_X7_125 : MV RX7 125 yX7_next cX7_next 2 none 0 := ⟨(tw4 121 rfl rfl), (tw4 123 rfl rfl), (tw0 26 rfl rfl), (tw1 8 rfl rfl), (tw4 124 rfl rfl), ⟨by decide +kernel, by decide +kernel, by decide +kernel⟩⟩
theorem mv_X7_91 : MV RX7 91 yX7_byteAt cX7_byteAt 2 (some .int) 1 := ⟨(tw4 125 rfl rfl), (tw4 127 rfl rfl), (tw0 27 rfl rfl), (tw1 8 rfl rfl), (tw4 128 rfl rfl), ⟨by decide +kernel, by decide +kernel, by decide +kernel⟩⟩
theorem mv_X7_117 : MV RX7 117 yX7_needs cX7_needs 3 none 2 := ⟨(tw4 133 rfl rfl), (tw4 135 rfl rfl), (tw0 28 rfl rfl), (tw1 8 rfl rfl), (tw4 136 rfl rfl), ⟨by decide +kernel, by decide +kernel, by decide +kernel⟩⟩
theorem mv_X7_145 : MV RX7 145 yX7_readLine cX7_readLine 2 none 0 := ⟨(tw4 137 rfl rfl), (tw4 139 rfl rfl), (tw0 29 rfl rfl), (tw1 8 rfl rfl), (tw4 140 rfl rfl), ⟨by decide +kernel, by decide +kernel, by decide +kernel⟩⟩
theorem mv_X7_138 : MV RX7 138 yX7_lineNow cX7_lineNow 1 (some .int) 0 := ⟨(tw4 141 rfl rfl), (tw4 143 rfl rfl), (tw0 30 rfl rfl), (tw1 8 rfl rfl), (tw4 144 rfl rfl), ⟨by decide +kernel, by decide +kernel, by decide +kernel⟩⟩
theorem mv_X7_95 : MV RX7 95 yX7_is cX7_is 5 (some .boolean) 4 := ⟨(tw4 145 rfl rfl), (tw4 147 rfl rfl), (tw0 31 rfl rfl), (tw1 8 rfl rfl), (tw4 148 rfl rfl), ⟨by decide +kernel, by decide +kernel, by decide +kernel⟩⟩
theorem mv_X7_99 : MV RX7 99 yX7_ends cX7_ends 4 (some .boolean) 3 := ⟨(tw4 149 rfl rfl), (tw4 151 rfl rfl), (tw0 32 rfl rfl), (tw1 8 rfl rfl), (tw4 152 rfl rfl), ⟨by decide +kernel, by decide +kernel, by decide +kernel⟩⟩
theorem mv_X7_141 : MV RX7 141 yX7_readLineOf cX7_readLineOf 2 none 1 := ⟨(tw4 153 rfl rfl), (tw4 155 rfl rfl), (tw0 33 rfl rfl), (tw1 8 rfl rfl), (tw4 156 rfl rfl), ⟨by decide +kernel, by decide +kernel, by decide +kernel⟩⟩
theorem mv_X7_131 : MV RX7 131 yX7_readHouse cX7_readHouse 2 (some .int) 0 := ⟨(tw4 157 rfl rfl), (tw4 159 rfl rfl), (tw0 34 rfl rfl), (tw1 8 rfl rfl), (tw4 160 rfl rfl), ⟨by decide +kernel, by decide +kernel, by decide +kernel⟩⟩
theorem mv_X7_128 : MV RX7 128 yX7_readNumber cX7_readNumber 4 (some .int) 2 := ⟨(tw4 161 rfl rfl), (tw4 163 rfl rfl), (tw0 35 rfl rfl), (tw1 8 rfl rfl), (tw4 164 rfl rfl), ⟨by decide +kernel, by decide +kernel, by decide +kernel⟩⟩
theorem mv_X7_121 : MV RX7 121 yX7_looked cX7_looked 3 (some .int) 2 := ⟨(tw4 165 rfl rfl), (tw4 167 rfl rfl), (tw0 36 rfl rfl), (tw1 8 rfl rfl), (tw4 168 rfl rfl), ⟨by decide +kernel, by decide +kernel, by decide +kernel⟩⟩
theorem mv_X7_135 : MV RX7 135 yX7_readRain cX7_readRain 2 none 0 := ⟨(tw4 169 rfl rfl), (tw4 171 rfl rfl), (tw0 37 rfl rfl), (tw1 8 rfl rfl), (tw4 172 rfl rfl), ⟨by decide +kernel, by decide +kernel, by decide +kernel⟩⟩
theorem mv_X7_148 : MV RX7 148 yX7_offersCome cX7_offersCome 4 none 0 := ⟨(tw4 173 rfl rfl), (tw4 175 rfl rfl), (tw0 38 rfl rfl), (tw1 8 rfl rfl), (tw4 176 rfl rfl), ⟨by decide +kernel, by decide +kernel, by decide +kernel⟩⟩
theorem mv_L_30 : MV RL 30 yX7_fault cX7_fault 1 (some .int) 0 := ⟨(tw4 177 rfl rfl), (tw4 178 rfl rfl), (tw4 179 rfl rfl), (tw1 8 rfl rfl), (tw4 180 rfl rfl), ⟨by decide +kernel, by decide +kernel, by decide +kernel⟩⟩
theorem mv_L_34 : MV RL 34 yX7_rule cX7_rule 2 (some .int) 1 := ⟨(tw4 181 rfl rfl), (tw4 182 rfl rfl), (tw4 183 rfl rfl), (tw1 8 rfl rfl), (tw4 184 rfl rfl), ⟨by decide +kernel, by decide +kernel, by decide +kernel⟩⟩
theorem mv_X7_170 : MV RX7 170 yX7_starts cX7_starts 2 none 0 := ⟨(tw4 185 rfl rfl), (tw4 187 rfl rfl), (tw0 39 rfl rfl), (tw1 8 rfl rfl), (tw4 188 rfl rfl), ⟨by decide +kernel, by decide +kernel, by decide +kernel⟩⟩
theorem mv_X7_173 : MV RX7 173 yX7_allOf cX7_allOf 4 (some .int) 1 := ⟨(tw4 189 rfl rfl), (tw4 191 rfl rfl), (tw0 40 rfl rfl), (tw1 8 rfl rfl), (tw4 192 rfl rfl), ⟨by decide +kernel, by decide +kernel, by decide +kernel⟩⟩
theorem mv_L_39 : MV RL 39 yX7_house cX7_house 3 (some .int) 2 := ⟨(tw4 193 rfl rfl), (tw4 194 rfl rfl), (tw4 195 rfl rfl), (tw1 8 rfl rfl), (tw4 196 rfl rfl), ⟨by decide +kernel, by decide +kernel, by decide +kernel⟩⟩
theorem mv_X7_176 : MV RX7 176 yX7_isHouse cX7_isHouse 2 (some .boolean) 1 := ⟨(tw4 197 rfl rfl), (tw4 199 rfl rfl), (tw0 41 rfl rfl), (tw1 8 rfl rfl), (tw4 200 rfl rfl), ⟨by decide +kernel, by decide +kernel, by decide +kernel⟩⟩
theorem mv_L_44 : MV RL 44 yX7_alter cX7_alter 4 (some .int) 3 := ⟨(tw4 202 rfl rfl), (tw4 203 rfl rfl), (tw4 204 rfl rfl), (tw1 8 rfl rfl), (tw4 205 rfl rfl), ⟨by decide +kernel, by decide +kernel, by decide +kernel⟩⟩
theorem mz_X7_182 : MS RX7 182 yX7_isPart cX7_isPart 1 (some .boolean) 1 := ⟨(tw4 206 rfl rfl), (tw4 207 rfl rfl), (tw1 8 rfl rfl), (tw4 208 rfl rfl), ⟨by decide +kernel, by decide +kernel, by decide +kernel⟩⟩
theorem mv_X7_189 : MV RX7 189 yX7_becomes cX7_becomes 4 (some .int) 2 := ⟨(tw4 211 rfl rfl), (tw4 213 rfl rfl), (tw0 42 rfl rfl), (tw1 8 rfl rfl), (tw4 214 rfl rfl), ⟨by decide +kernel, by decide +kernel, by decide +kernel⟩⟩
theorem mv_L_48 : MV RL 48 yX7_set cX7_set 4 (some .int) 2 := ⟨(tw4 215 rfl rfl), (tw4 216 rfl rfl), (tw4 217 rfl rfl), (tw1 8 rfl rfl), (tw4 218 rfl rfl), ⟨by decide +kernel, by decide +kernel, by decide +kernel⟩⟩
theorem mv_L_53 : MV RL 53 yX7_rain cX7_rain 4 (some .int) 2 := ⟨(tw4 221 rfl rfl), (tw4 222 rfl rfl), (tw4 223 rfl rfl), (tw1 8 rfl rfl), (tw4 224 rfl rfl), ⟨by decide +kernel, by decide +kernel, by decide +kernel⟩⟩
theorem mv_L_57 : MV RL 57 yX7_offer cX7_offer 3 (some .int) 2 := ⟨(tw4 226 rfl rfl), (tw4 227 rfl rfl), (tw4 228 rfl rfl), (tw1 8 rfl rfl), (tw4 229 rfl rfl), ⟨by decide +kernel, by decide +kernel, by decide +kernel⟩⟩
theorem mv_X7_157 : MV RX7 157 yX7_gives cX7_gives 3 none 2 := ⟨(tw4 230 rfl rfl), (tw4 232 rfl rfl), (tw0 43 rfl rfl), (tw1 8 rfl rfl), (tw4 233 rfl rfl), ⟨by decide +kernel, by decide +kernel, by decide +kernel⟩⟩
theorem mv_X7_198 : MV RX7 198 yX7_settles cX7_settles 2 none 0 := ⟨(tw4 234 rfl rfl), (tw4 236 rfl rfl), (tw0 44 rfl rfl), (tw1 8 rfl rfl), (tw4 237 rfl rfl), ⟨by decide +kernel, by decide +kernel, by decide +kernel⟩⟩
theorem mv_L_61 : MV RL 61 yX7_go cX7_go 3 (some .int) 1 := ⟨(tw4 238 rfl rfl), (tw4 239 rfl rfl), (tw5 0 rfl rfl), (tw1 8 rfl rfl), (tw5 1 rfl rfl), ⟨by decide +kernel, by decide +kernel, by decide +kernel⟩⟩
theorem mv_X7_167 : MV RX7 167 yX7_nightsGo cX7_nightsGo 3 none 1 := ⟨(tw5 3 rfl rfl), (tw5 5 rfl rfl), (tw0 45 rfl rfl), (tw1 8 rfl rfl), (tw5 6 rfl rfl), ⟨by decide +kernel, by decide +kernel, by decide +kernel⟩⟩
theorem mv_X7_164 : MV RX7 164 yX7_nightGoes cX7_nightGoes 1 none 0 := ⟨(tw5 7 rfl rfl), (tw5 9 rfl rfl), (tw0 46 rfl rfl), (tw1 8 rfl rfl), (tw5 10 rfl rfl), ⟨by decide +kernel, by decide +kernel, by decide +kernel⟩⟩
theorem mv_X7_161 : MV RX7 161 yX7_asks cX7_asks 4 none 0 := ⟨(tw5 11 rfl rfl), (tw5 13 rfl rfl), (tw0 47 rfl rfl), (tw1 8 rfl rfl), (tw5 14 rfl rfl), ⟨by decide +kernel, by decide +kernel, by decide +kernel⟩⟩
theorem mz_X7_151 : MS RX7 151 yX7_lesser cX7_lesser 2 (some .int) 2 := ⟨(tw5 15 rfl rfl), (tw5 16 rfl rfl), (tw1 8 rfl rfl), (tw5 17 rfl rfl), ⟨by decide +kernel, by decide +kernel, by decide +kernel⟩⟩
theorem mv_X7_154 : MV RX7 154 yX7_burns cX7_burns 4 (some .int) 2 := ⟨(tw5 18 rfl rfl), (tw5 20 rfl rfl), (tw0 48 rfl rfl), (tw1 8 rfl rfl), (tw5 21 rfl rfl), ⟨by decide +kernel, by decide +kernel, by decide +kernel⟩⟩
theorem mv_L_65 : MV RL 65 yX7_runs cX7_runs 5 (some .int) 2 := ⟨(tw5 22 rfl rfl), (tw5 23 rfl rfl), (tw5 24 rfl rfl), (tw1 8 rfl rfl), (tw5 25 rfl rfl), ⟨by decide +kernel, by decide +kernel, by decide +kernel⟩⟩
theorem mv_L_69 : MV RL 69 yX7_ahead cX7_ahead 3 (some .int) 2 := ⟨(tw5 27 rfl rfl), (tw5 28 rfl rfl), (tw5 29 rfl rfl), (tw1 8 rfl rfl), (tw5 30 rfl rfl), ⟨by decide +kernel, by decide +kernel, by decide +kernel⟩⟩
theorem mv_L_73 : MV RL 73 yX7_bare cX7_bare 3 (some .int) 1 := ⟨(tw5 31 rfl rfl), (tw5 32 rfl rfl), (tw5 33 rfl rfl), (tw1 8 rfl rfl), (tw5 34 rfl rfl), ⟨by decide +kernel, by decide +kernel, by decide +kernel⟩⟩
theorem mv_L_77 : MV RL 77 yX7_best cX7_best 7 (some .int) 2 := ⟨(tw5 35 rfl rfl), (tw5 36 rfl rfl), (tw5 37 rfl rfl), (tw1 8 rfl rfl), (tw5 38 rfl rfl), ⟨by decide +kernel, by decide +kernel, by decide +kernel⟩⟩
theorem mv_X7_206 : MV RX7 206 yX7_numbers cX7_numbers 1 (some .int) 0 := ⟨(tw5 40 rfl rfl), (tw5 42 rfl rfl), (tw0 49 rfl rfl), (tw1 8 rfl rfl), (tw5 43 rfl rfl), ⟨by decide +kernel, by decide +kernel, by decide +kernel⟩⟩
theorem mv_X7_209 : MV RX7 209 yX7_startsBy cX7_startsBy 4 none 1 := ⟨(tw5 44 rfl rfl), (tw5 46 rfl rfl), (tw0 50 rfl rfl), (tw1 8 rfl rfl), (tw5 47 rfl rfl), ⟨by decide +kernel, by decide +kernel, by decide +kernel⟩⟩
theorem mv_X7_212 : MV RX7 212 yX7_lossOf cX7_lossOf 3 (some .int) 1 := ⟨(tw5 48 rfl rfl), (tw5 50 rfl rfl), (tw0 51 rfl rfl), (tw1 8 rfl rfl), (tw5 51 rfl rfl), ⟨by decide +kernel, by decide +kernel, by decide +kernel⟩⟩
theorem mv_L_81 : MV RL 81 yX7_change cX7_change 8 (some .int) 2 := ⟨(tw5 52 rfl rfl), (tw5 53 rfl rfl), (tw5 54 rfl rfl), (tw1 8 rfl rfl), (tw5 55 rfl rfl), ⟨by decide +kernel, by decide +kernel, by decide +kernel⟩⟩
theorem mv_L_85 : MV RL 85 yX7_cooks cX7_cooks 8 (some .int) 2 := ⟨(tw5 56 rfl rfl), (tw5 57 rfl rfl), (tw5 58 rfl rfl), (tw1 8 rfl rfl), (tw5 59 rfl rfl), ⟨by decide +kernel, by decide +kernel, by decide +kernel⟩⟩
theorem mz_X7_215 : MS RX7 215 yX7_flag cX7_flag 1 (some .int) 1 := ⟨(tw5 60 rfl rfl), (tw5 61 rfl rfl), (tw1 8 rfl rfl), (tw5 62 rfl rfl), ⟨by decide +kernel, by decide +kernel, by decide +kernel⟩⟩
theorem mz_X7_219 : MS RX7 219 yX7_bitsOf cX7_bitsOf 3 (some .int) 1 := ⟨(tw5 63 rfl rfl), (tw5 64 rfl rfl), (tw1 8 rfl rfl), (tw5 65 rfl rfl), ⟨by decide +kernel, by decide +kernel, by decide +kernel⟩⟩
theorem mv_X7_222 : MV RX7 222 yX7_startsWithCooks cX7_startsWithCooks 3 none 1 := ⟨(tw5 66 rfl rfl), (tw5 68 rfl rfl), (tw0 52 rfl rfl), (tw1 8 rfl rfl), (tw5 69 rfl rfl), ⟨by decide +kernel, by decide +kernel, by decide +kernel⟩⟩
theorem mv_L_89 : MV RL 89 yX7_appease cX7_appease 9 (some .int) 2 := ⟨(tw5 70 rfl rfl), (tw5 71 rfl rfl), (tw5 72 rfl rfl), (tw1 8 rfl rfl), (tw5 73 rfl rfl), ⟨by decide +kernel, by decide +kernel, by decide +kernel⟩⟩
theorem mv_L_93 : MV RL 93 yX7_pray cX7_pray 5 (some .int) 1 := ⟨(tw5 74 rfl rfl), (tw5 75 rfl rfl), (tw5 76 rfl rfl), (tw1 8 rfl rfl), (tw5 77 rfl rfl), ⟨by decide +kernel, by decide +kernel, by decide +kernel⟩⟩
theorem mv_L_97 : MV RL 97 yX7_value cX7_value 3 (some .int) 2 := ⟨(tw5 78 rfl rfl), (tw5 79 rfl rfl), (tw5 80 rfl rfl), (tw1 8 rfl rfl), (tw5 81 rfl rfl), ⟨by decide +kernel, by decide +kernel, by decide +kernel⟩⟩
theorem mv_X7_225 : MV RX7 225 yX7_valueOf cX7_valueOf 4 (some .int) 2 := ⟨(tw5 82 rfl rfl), (tw5 84 rfl rfl), (tw0 53 rfl rfl), (tw1 8 rfl rfl), (tw5 85 rfl rfl), ⟨by decide +kernel, by decide +kernel, by decide +kernel⟩⟩
theorem mv_L_102 : MV RL 102 yX7_share cX7_share 8 (some .long) 3 := ⟨(tw5 86 rfl rfl), (tw5 87 rfl rfl), (tw5 88 rfl rfl), (tw1 8 rfl rfl), (tw5 89 rfl rfl), ⟨by decide +kernel, by decide +kernel, by decide +kernel⟩⟩
theorem mz_X7_234 : MS RX7 234 yX7_orders cX7_orders 4 (some .long) 1 := ⟨(tw5 91 rfl rfl), (tw5 92 rfl rfl), (tw1 8 rfl rfl), (tw5 93 rfl rfl), ⟨by decide +kernel, by decide +kernel, by decide +kernel⟩⟩
theorem mz_X7_238 : MS RX7 238 yX7_told cX7_told 7 (some .long) 3 := ⟨(tw5 94 rfl rfl), (tw5 95 rfl rfl), (tw1 8 rfl rfl), (tw5 96 rfl rfl), ⟨by decide +kernel, by decide +kernel, by decide +kernel⟩⟩
theorem mz_X7_228 : MS RX7 228 yX7_common cX7_common 10 (some .long) 2 := ⟨(tw5 97 rfl rfl), (tw5 98 rfl rfl), (tw1 8 rfl rfl), (tw5 99 rfl rfl), ⟨by decide +kernel, by decide +kernel, by decide +kernel⟩⟩
theorem mv_L_106 : MV RL 106 yX7_luck cX7_luck 4 (some .long) 3 := ⟨(tw5 100 rfl rfl), (tw5 101 rfl rfl), (tw5 102 rfl rfl), (tw1 8 rfl rfl), (tw5 103 rfl rfl), ⟨by decide +kernel, by decide +kernel, by decide +kernel⟩⟩
theorem mv_X7_254 : MV RX7 254 yX7_findOdds cX7_findOdds 8 none 2 := ⟨(tw5 105 rfl rfl), (tw5 107 rfl rfl), (tw0 54 rfl rfl), (tw1 8 rfl rfl), (tw5 108 rfl rfl), ⟨by decide +kernel, by decide +kernel, by decide +kernel⟩⟩
theorem mv_L_110 : MV RL 110 yX7_mean cX7_mean 4 (some .long) 3 := ⟨(tw5 109 rfl rfl), (tw5 110 rfl rfl), (tw5 111 rfl rfl), (tw1 8 rfl rfl), (tw5 112 rfl rfl), ⟨by decide +kernel, by decide +kernel, by decide +kernel⟩⟩
theorem mv_L_114 : MV RL 114 yX7_see cX7_see 5 (some .int) 3 := ⟨(tw5 113 rfl rfl), (tw5 114 rfl rfl), (tw5 115 rfl rfl), (tw1 8 rfl rfl), (tw5 116 rfl rfl), ⟨by decide +kernel, by decide +kernel, by decide +kernel⟩⟩
theorem mv_L_118 : MV RL 118 yX7_forget cX7_forget 2 (some .int) 1 := ⟨(tw5 117 rfl rfl), (tw5 118 rfl rfl), (tw5 119 rfl rfl), (tw1 8 rfl rfl), (tw5 120 rfl rfl), ⟨by decide +kernel, by decide +kernel, by decide +kernel⟩⟩
theorem mv_L_122 : MV RL 122 yX7_fits cX7_fits 6 (some .int) 1 := ⟨(tw5 121 rfl rfl), (tw5 122 rfl rfl), (tw5 123 rfl rfl), (tw1 8 rfl rfl), (tw5 124 rfl rfl), ⟨by decide +kernel, by decide +kernel, by decide +kernel⟩⟩
theorem mv_X7_257 : MV RX7 257 yX7_isFit cX7_isFit 5 (some .boolean) 1 := ⟨(tw5 125 rfl rfl), (tw5 127 rfl rfl), (tw0 55 rfl rfl), (tw1 8 rfl rfl), (tw5 128 rfl rfl), ⟨by decide +kernel, by decide +kernel, by decide +kernel⟩⟩
theorem mv_L_126 : MV RL 126 yX7_look cX7_look 9 (some .int) 1 := ⟨(tw5 129 rfl rfl), (tw5 130 rfl rfl), (tw5 131 rfl rfl), (tw1 8 rfl rfl), (tw5 132 rfl rfl), ⟨by decide +kernel, by decide +kernel, by decide +kernel⟩⟩
theorem mv_L_130 : MV RL 130 yX7_drift cX7_drift 7 (some .int) 3 := ⟨(tw5 133 rfl rfl), (tw5 134 rfl rfl), (tw5 135 rfl rfl), (tw1 8 rfl rfl), (tw5 136 rfl rfl), ⟨by decide +kernel, by decide +kernel, by decide +kernel⟩⟩
theorem mv_L_134 : MV RL 134 yX7_keep cX7_keep 3 (some .int) 1 := ⟨(tw5 139 rfl rfl), (tw5 140 rfl rfl), (tw5 141 rfl rfl), (tw1 8 rfl rfl), (tw5 142 rfl rfl), ⟨by decide +kernel, by decide +kernel, by decide +kernel⟩⟩
theorem mv_X7_263 : MV RX7 263 yX7_copies cX7_copies 4 none 2 := ⟨(tw5 143 rfl rfl), (tw5 145 rfl rfl), (tw0 56 rfl rfl), (tw1 8 rfl rfl), (tw5 146 rfl rfl), ⟨by decide +kernel, by decide +kernel, by decide +kernel⟩⟩
theorem mv_L_138 : MV RL 138 yX7_back cX7_back 2 (some .int) 1 := ⟨(tw5 147 rfl rfl), (tw5 148 rfl rfl), (tw5 149 rfl rfl), (tw1 8 rfl rfl), (tw5 150 rfl rfl), ⟨by decide +kernel, by decide +kernel, by decide +kernel⟩⟩
theorem mv_L_142 : MV RL 142 yX7_sheet cX7_sheet 5 (some .int) 3 := ⟨(tw5 151 rfl rfl), (tw5 152 rfl rfl), (tw5 153 rfl rfl), (tw1 8 rfl rfl), (tw5 154 rfl rfl), ⟨by decide +kernel, by decide +kernel, by decide +kernel⟩⟩
theorem mz_X7_266 : MS RX7 266 yX7_isSheet cX7_isSheet 2 (some .boolean) 2 := ⟨(tw5 155 rfl rfl), (tw5 156 rfl rfl), (tw1 8 rfl rfl), (tw5 157 rfl rfl), ⟨by decide +kernel, by decide +kernel, by decide +kernel⟩⟩
theorem mv_L_146 : MV RL 146 yX7_lay cX7_lay 4 (some .int) 3 := ⟨(tw5 158 rfl rfl), (tw5 159 rfl rfl), (tw5 160 rfl rfl), (tw1 8 rfl rfl), (tw5 161 rfl rfl), ⟨by decide +kernel, by decide +kernel, by decide +kernel⟩⟩
theorem mv_L_151 : MV RL 151 yX7_read cX7_read 11 (some .int) 4 := ⟨(tw5 162 rfl rfl), (tw5 163 rfl rfl), (tw5 164 rfl rfl), (tw1 8 rfl rfl), (tw5 165 rfl rfl), ⟨by decide +kernel, by decide +kernel, by decide +kernel⟩⟩
theorem mv_X7_270 : MV RX7 270 yX7_offer cX7_offer 3 (some .int) 2 := ⟨(tw5 166 rfl rfl), (tw4 227 rfl rfl), (tw4 228 rfl rfl), (tw1 8 rfl rfl), (tw4 229 rfl rfl), ⟨by decide +kernel, by decide +kernel, by decide +kernel⟩⟩
theorem mv_L_155 : MV RL 155 yX7_torn cX7_torn 1 (some .int) 0 := ⟨(tw5 167 rfl rfl), (tw5 168 rfl rfl), (tw5 169 rfl rfl), (tw1 8 rfl rfl), (tw5 170 rfl rfl), ⟨by decide +kernel, by decide +kernel, by decide +kernel⟩⟩
theorem mv_L_159 : MV RL 159 yX7_count cX7_count 2 (some .int) 1 := ⟨(tw5 171 rfl rfl), (tw5 172 rfl rfl), (tw5 173 rfl rfl), (tw1 8 rfl rfl), (tw5 174 rfl rfl), ⟨by decide +kernel, by decide +kernel, by decide +kernel⟩⟩
theorem kc_J6_265 : Cond.constant RJ6 265 (1431655765) ∈ gw := (tw3 75 rfl rfl)
theorem kc_J6_266 : Cond.constant RJ6 266 (858993459) ∈ gw := (tw3 76 rfl rfl)
theorem kc_J6_267 : Cond.constant RJ6 267 (252645135) ∈ gw := (tw3 77 rfl rfl)
theorem kc_X6_183 : Cond.constantLong RX6 183 (-1) ∈ gw := (tw3 94 rfl rfl)
theorem kc_X6_222 : Cond.constant RX6 222 (1103515245) ∈ gw := (tw3 175 rfl rfl)
theorem kc_X7_70 : Cond.constantLong RX7 70 (127) ∈ gw := (tw4 109 rfl rfl)
theorem kc_X7_106 : Cond.constantLong RX7 106 (97) ∈ gw := (tw4 129 rfl rfl)
theorem kc_X7_108 : Cond.constantLong RX7 108 (122) ∈ gw := (tw4 130 rfl rfl)
theorem kc_X7_110 : Cond.constantLong RX7 110 (48) ∈ gw := (tw4 131 rfl rfl)
theorem kc_X7_112 : Cond.constantLong RX7 112 (57) ∈ gw := (tw4 132 rfl rfl)
theorem kc_X7_180 : Cond.constantLong RX7 180 (2) ∈ gw := (tw4 201 rfl rfl)
theorem kc_X7_185 : Cond.constantLong RX7 185 (3) ∈ gw := (tw4 209 rfl rfl)
theorem kc_X7_187 : Cond.constantLong RX7 187 (99) ∈ gw := (tw4 210 rfl rfl)
theorem kc_X7_192 : Cond.constantLong RX7 192 (20) ∈ gw := (tw4 219 rfl rfl)
theorem kc_X7_194 : Cond.constantLong RX7 194 (9) ∈ gw := (tw4 220 rfl rfl)
theorem kc_X7_196 : Cond.constantLong RX7 196 (6) ∈ gw := (tw4 225 rfl rfl)
theorem kc_X7_201 : Cond.constantLong RX7 201 (30) ∈ gw := (tw5 2 rfl rfl)
theorem kc_X7_203 : Cond.constantLong RX7 203 (5) ∈ gw := (tw5 26 rfl rfl)
theorem kc_X7_205 : Cond.constant RX7 205 (1000000) ∈ gw := (tw5 39 rfl rfl)
theorem kc_X7_232 : Cond.constantLong RX7 232 (-1) ∈ gw := (tw5 90 rfl rfl)
theorem kc_X7_252 : Cond.constantLong RX7 252 (10) ∈ gw := (tw5 104 rfl rfl)
theorem kc_X7_260 : Cond.constantLong RX7 260 (60) ∈ gw := (tw5 137 rfl rfl)
theorem kc_X7_262 : Cond.constant RX7 262 (1103515245) ∈ gw := (tw5 138 rfl rfl)
end
section

/-! what the printed walks use -/
def rm (d : Nat) : Room := { frames := d, cells := 0, slots := 0, locals := 35 * d }
def ab_eq (v0 : Option Value) (h0 : ab_H) : Option Value → ab_H → Prop := fun v h => v = v0 ∧ h = h0
def dl {α β : Type} (e : α) (k : α → β) : β := k e
theorem dl_n {α β : Type} {e : α} {k : α → Option β} {r : β} (h : dl e k = some r) (x : α) (hx : x = e) : k x = some r := by rw [hx]; exact h
theorem g_t {c : Prop} [Decidable c] {α : Type} {a b : Option α} {r : α} (h : (if c then a else b) = some r) (hc : c) : a = some r := by rw [if_pos hc] at h; exact h
theorem g_f {c : Prop} [Decidable c] {α : Type} {a b : Option α} {r : α} (h : (if c then a else b) = some r) (hc : ¬ c) : b = some r := by rw [if_neg hc] at h; exact h
theorem g_b {c : Prop} [Decidable c] {α : Type} {a : Option α} {r : α} (h : (if c then a else none) = some r) : c ∧ a = some r := by
  by_cases hc : c
  · rw [if_pos hc] at h; exact ⟨hc, h⟩
  · rw [if_neg hc] at h; cases h
theorem g_n {c : Prop} [Decidable c] {α : Type} {a : Option α} {r : α} (h : (if c then none else a) = some r) : ¬ c ∧ a = some r := by
  by_cases hc : c
  · rw [if_pos hc] at h; cases h
  · rw [if_neg hc] at h; exact ⟨hc, h⟩
theorem g_bind {α β : Type} {e : Option α} {f : α → Option β} {r : β} (h : e.bind f = some r) : ∃ x, e = some x ∧ f x = some r := by
  cases e with
  | none => cases h
  | some x => exact ⟨x, rfl, h⟩
def gi (i : Int32) (n : Nat) : Bool := !(decide (i < 0) || decide (n ≤ i.toNatClampNeg))
theorem gi_in {i : Int32} {n : Nat} (h : gi i n = true) : vp_in i n := by
  intro q
  simp only [gi, Bool.not_eq_true', Bool.or_eq_false_iff, decide_eq_false_iff_not] at h
  exact q.elim h.1 h.2
def pw (u : Nat → Nat → Int32) (c j : Nat) (x : Int32) : Nat → Nat → Int32 := va_up u c (upd (u c) j x)
def pr (u : Nat → Nat → Int32) (c : Nat) (f : Nat → Int32) : Nat → Nat → Int32 := va_up u c f
def sh (u : Nat → Nat → Int32) (b : Nat) : Nat → Nat → Int32 := fun i => u (b + i)
def pt (u : Nat → Nat → Int32) (b n : Nat) (v : Nat → Nat → Int32) : Nat → Nat → Int32 := fun j => if b ≤ j ∧ j < b + n then v (j - b) else u j
def sj (u v : Nat → Nat → Int32) (n : Nat) : Nat → Nat → Int32 := fun i => if i < n then u i else v (i - n)
def pwl (w : Nat → Int64) (j : Nat) (x : Int64) : Nat → Int64 := va_up w j x
def FU : Nat := 10000
section VWRAP
variable {own nm : String} {cc : ByteArray} {nL : Nat} {ret : Option FieldType} {R : Room} {Q : Option Value → ab_H → Prop} {mc ms k n pc : Nat} {L : List (Nat × Value)} {st : List Value} {h : ab_H}
theorem v_pti {idx ci j b : Nat} {fs : List Value} {x : Int32} {h2 : ab_H} (hd : decode cc pc = .ok (.putfield idx, 3)) (f : FL own idx ci j .int false) (hh : h[b]? = some (aO ci fs)) (hl : j < fs.length) (he : h.set b (aO ci (fs.set j (.int x))) = h2) (kk : Vd own nm cc nL ret R Q mc ms k n (pc + 3) L st h2) : Vd own nm cc nL ret R Q mc ms k n pc L (.int x :: .ref b :: st) h :=
  v_put hd f hh (fun _ _ => rfl) (fun _ _ => rfl) hl (he ▸ kk)
theorem v_ptz {idx ci j b : Nat} {fs : List Value} {x : Int32} {h2 : ab_H} (hd : decode cc pc = .ok (.putfield idx, 3)) (f : FL own idx ci j .boolean false) (hh : h[b]? = some (aO ci fs)) (hx : x = 0 ∨ x = 1) (hl : j < fs.length) (he : h.set b (aO ci (fs.set j (.int x))) = h2) (kk : Vd own nm cc nL ret R Q mc ms k n (pc + 3) L st h2) : Vd own nm cc nL ret R Q mc ms k n pc L (.int x :: .ref b :: st) h :=
  v_put hd f hh (fun _ _ => by rcases hx with rfl | rfl <;> rfl) (fun _ _ => by rcases hx with rfl | rfl <;> rfl) hl (he ▸ kk)
theorem v_ptl {idx ci j b : Nat} {fs : List Value} {x : Int64} {h2 : ab_H} (hd : decode cc pc = .ok (.putfield idx, 3)) (f : FL own idx ci j .long false) (hh : h[b]? = some (aO ci fs)) (hl : j < fs.length) (he : h.set b (aO ci (fs.set j (.long x))) = h2) (kk : Vd own nm cc nL ret R Q mc ms k n (pc + 3) L st h2) : Vd own nm cc nL ret R Q mc ms k n pc L (.long x :: .ref b :: st) h :=
  v_put hd f hh (fun _ _ => rfl) (fun _ _ => rfl) hl (he ▸ kk)
theorem v_ist {b m0 : Nat} {f : Nat → Int32} {i x : Int32} {h2 : ab_H} (hd : decode cc pc = .ok (.iastore, 1)) (hh : h[b]? = some (aI 0 m0 f)) (hi : vp_in i m0) (he : h.set b (aI 0 m0 (upd f i.toNatClampNeg x)) = h2) (kk : Vd own nm cc nL ret R Q mc ms k n (pc + 1) L st h2) : Vd own nm cc nL ret R Q mc ms k n pc L (.int x :: .int i :: .ref b :: st) h := v_iast hd hh hi (he ▸ kk)
theorem v_bst {b m0 : Nat} {f : Nat → Int32} {i x : Int32} {h2 : ab_H} (hd : decode cc pc = .ok (.bastore, 1)) (hh : h[b]? = some (aI 1 m0 f)) (hi : vp_in i m0) (he : h.set b (aI 1 m0 (upd f i.toNatClampNeg (vp_nar .byte x))) = h2) (kk : Vd own nm cc nL ret R Q mc ms k n (pc + 1) L st h2) : Vd own nm cc nL ret R Q mc ms k n pc L (.int x :: .int i :: .ref b :: st) h := v_bast hd hh hi (he ▸ kk)
theorem v_zst {b m0 : Nat} {f : Nat → Int32} {i x : Int32} {h2 : ab_H} (hd : decode cc pc = .ok (.bastore, 1)) (hh : h[b]? = some (aI 2 m0 f)) (hi : vp_in i m0) (he : h.set b (aI 2 m0 (upd f i.toNatClampNeg (vp_nar .boolean x))) = h2) (kk : Vd own nm cc nL ret R Q mc ms k n (pc + 1) L st h2) : Vd own nm cc nL ret R Q mc ms k n pc L (.int x :: .int i :: .ref b :: st) h := v_zast hd hh hi (he ▸ kk)
theorem v_iretE {x : Int32} {ty : FieldType} {v0 : Option Value} {h0 : ab_H} {d : Nat} (hd : decode cc pc = .ok (.ireturn, 1)) (hr : ret = some ty) (hn : narrow ty (.int x) = .int x) (h1 : some (.int x) = v0) (h2 : h = h0) : Vd own nm cc nL ret (rm d) (ab_eq v0 h0) 0 0 0 0 pc L [.int x] h := v_iret hd hr hn (Nat.le_refl _) (Nat.le_refl _) ⟨h1, h2⟩
theorem v_lretE {x : Int64} {v0 : Option Value} {h0 : ab_H} {d : Nat} (hd : decode cc pc = .ok (.lreturn, 1)) (hr : ret = some .long) (h1 : some (.long x) = v0) (h2 : h = h0) : Vd own nm cc nL ret (rm d) (ab_eq v0 h0) 0 0 0 0 pc L [.long x] h := v_lret hd hr (Nat.le_refl _) (Nat.le_refl _) ⟨h1, h2⟩
theorem v_aretE {x : Nat} {t : String} {v0 : Option Value} {h0 : ab_H} {d : Nat} (hd : decode cc pc = .ok (.areturn, 1)) (hr : ret = some (.object t)) (h1 : some (.ref x) = v0) (h2 : h = h0) : Vd own nm cc nL ret (rm d) (ab_eq v0 h0) 0 0 0 0 pc L [.ref x] h := v_aret hd hr (Nat.le_refl _) (Nat.le_refl _) ⟨h1, h2⟩
theorem v_vretE {v0 : Option Value} {h0 : ab_H} {d : Nat} (hd : decode cc pc = .ok (.return_, 1)) (hr : ret = none) (h1 : none = v0) (h2 : h = h0) : Vd own nm cc nL ret (rm d) (ab_eq v0 h0) 0 0 0 0 pc L [] h := v_vret hd hr (Nat.le_refl _) (Nat.le_refl _) ⟨h1, h2⟩
theorem rm_ok {d e nL : Nat} (h : d + 1 ≤ e) (h2 : nL ≤ 16) : (rm d).frames + 1 ≤ (rm e).frames ∧ 8 + (nL + 11) + (rm d).locals ≤ (rm e).locals := by
  simp only [rm]
  omega
variable {y : MethodName} {cy : ByteArray} {nLy : Nat} {rety : Option FieldType} {as : List Value} {hs h0 h2 : ab_H} {v0 : Option Value} {d dy : Nat} {st2 : List Value}
theorem v_cV {idx np b ci : Nat} {As : List Value} {fs : List Value} {stk : List Value} (rr : List Nat) (hd : decode cc pc = .ok (.invokevirtual idx, 3)) (f : MV own idx y cy nLy rety np) (hM : Mt y cy nLy rety (rm dy) as hs (ab_eq v0 h0)) (hr : rr.map (fun j => h[j]?) = hs.map (fun c => some (rc (ab_r rr) c))) (hnd : va_nd rr = true) (ha : as.map (rv (ab_r rr)) = .ref b :: As) (hstk : stk = As.reverse ++ .ref b :: st) (hnp : As.length = np) (hb : h[b]? = some (aO ci fs)) (hci : (vwCl[ci]?).map (fun q => q.1) = some y.cls) (hcat : Nat.ble (st.map fun v => v.category).sum 8 = true) (hR : dy + 1 ≤ d) (hR2 : nLy ≤ 16) (hlen : h0.length = hs.length) (hst : (v0.map (rv (ab_r rr))).toList ++ st = st2) (hh : ab_put h rr (h0.map (rc (ab_r rr))) = h2) (kk : Vd own nm cc nL ret (rm d) Q mc ms 0 0 (pc + 3) L st2 h2) : Vd own nm cc nL ret (rm d) Q mc ms 0 0 pc L stk h :=
  v_invV rr hd f hM hr hnd ha hstk hnp hb hci (Nat.le_of_ble_eq_true hcat) ⟨rfl, rfl⟩ (rm_ok hR hR2) ⟨Nat.le_refl _, Nat.le_refl _⟩ (fun v h' hq => by rw [hq.2]; exact hlen) (fun v h' hq => by rw [hq.1, hq.2, hst, hh]; exact kk)
theorem v_cS {idx np : Nat} {As : List Value} {stk : List Value} (rr : List Nat) (hd : decode cc pc = .ok (.invokestatic idx, 3)) (f : MS own idx y cy nLy rety np) (hM : Mt y cy nLy rety (rm dy) as hs (ab_eq v0 h0)) (hr : rr.map (fun j => h[j]?) = hs.map (fun c => some (rc (ab_r rr) c))) (hnd : va_nd rr = true) (ha : as.map (rv (ab_r rr)) = As) (hstk : stk = As.reverse ++ st) (hnp : As.length = np) (hcat : Nat.ble (st.map fun v => v.category).sum 8 = true) (hR : dy + 1 ≤ d) (hR2 : nLy ≤ 16) (hlen : h0.length = hs.length) (hst : (v0.map (rv (ab_r rr))).toList ++ st = st2) (hh : ab_put h rr (h0.map (rc (ab_r rr))) = h2) (kk : Vd own nm cc nL ret (rm d) Q mc ms 0 0 (pc + 3) L st2 h2) : Vd own nm cc nL ret (rm d) Q mc ms 0 0 pc L stk h :=
  v_invS rr hd f hM hr hnd ha hstk hnp (Nat.le_of_ble_eq_true hcat) ⟨rfl, rfl⟩ (rm_ok hR hR2) ⟨Nat.le_refl _, Nat.le_refl _⟩ (fun v h' hq => by rw [hq.2]; exact hlen) (fun v h' hq => by rw [hq.1, hq.2, hst, hh]; exact kk)
theorem v_cN {idx np : Nat} {host : String} {As : List Value} {stk : List Value} (rr : List Nat) (hd : decode cc pc = .ok (.invokestatic idx, 3)) (f : MN own idx y host cy nLy rety np) (hM : Mt y cy nLy rety (rm dy) as hs (ab_eq v0 h0)) (hr : rr.map (fun j => h[j]?) = hs.map (fun c => some (rc (ab_r rr) c))) (hnd : va_nd rr = true) (ha : as.map (rv (ab_r rr)) = As) (hstk : stk = As.reverse ++ st) (hnp : As.length = np) (hcat : Nat.ble (st.map fun v => v.category).sum 8 = true) (hR : dy + 1 ≤ d) (hR2 : nLy ≤ 16) (hlen : h0.length = hs.length) (hst : (v0.map (rv (ab_r rr))).toList ++ st = st2) (hh : ab_put h rr (h0.map (rc (ab_r rr))) = h2) (kk : Vd own nm cc nL ret (rm d) Q mc ms 0 0 (pc + 3) L st2 h2) : Vd own nm cc nL ret (rm d) Q mc ms 0 0 pc L stk h :=
  v_invN rr hd f hM hr hnd ha hstk hnp (Nat.le_of_ble_eq_true hcat) ⟨rfl, rfl⟩ (rm_ok hR hR2) ⟨Nat.le_refl _, Nat.le_refl _⟩ (fun v h' hq => by rw [hq.2]; exact hlen) (fun v h' hq => by rw [hq.1, hq.2, hst, hh]; exact kk)
theorem ab_id {h : ab_H} : ∀ (rr : List Nat), True := fun _ => trivial
end VWRAP
/-- a call on the same heap -/
theorem xw_idx {ad : Nat → Nat} {sk : Nat → Option Nat} {ac : Nat → ClassId} {h : ab_H} : (List.range h.length).map (fun i => (xw ad sk ac h)[i]?) = (xw ad sk ac h).map some := by
  have hl : (xw ad sk ac h).length = h.length := by simp [xw]
  apply List.ext_getElem?
  intro i
  rw [List.getElem?_map, List.getElem?_map]
  by_cases hi : i < h.length
  · rw [List.getElem?_range hi]
    show some ((xw ad sk ac h)[i]?) = Option.map some ((xw ad sk ac h)[i]?)
    rw [List.getElem?_eq_getElem (show i < (xw ad sk ac h).length by omega)]
    rfl
  · rw [List.getElem?_eq_none (by simp; omega), List.getElem?_eq_none (by omega)]
    rfl
section VSAME
variable {own nm : String} {cc : ByteArray} {nL : Nat} {ret : Option FieldType} {R : Room} {Q : Option Value → ab_H → Prop} {mc ms k n pc : Nat} {L : List (Nat × Value)} {st : List Value} {h : ab_H}
variable {y : MethodName} {cy : ByteArray} {nLy : Nat} {rety : Option FieldType} {h0 : ab_H} {v0 : Option Value} {d dy : Nat} {st2 : List Value}
set_option maxHeartbeats 4000000 in
theorem v_cI {idx np b ci : Nat} {As : List Value} {fs : List Value} {stk : List Value} (hd : decode cc pc = .ok (.invokevirtual idx, 3)) (f : MV own idx y cy nLy rety np) (hM : Mt y cy nLy rety (rm dy) (.ref b :: As) h (ab_eq v0 h0)) (hstk : stk = As.reverse ++ .ref b :: st) (hnp : As.length = np) (hb : h[b]? = some (aO ci fs)) (hci : (vwCl[ci]?).map (fun q => q.1) = some y.cls) (hcat : Nat.ble (st.map fun v => v.category).sum 8 = true) (hR : dy + 1 ≤ d) (hR2 : nLy ≤ 16) (hlen : h0.length = h.length) (hst : v0.toList ++ st = st2) (kk : Vd own nm cc nL ret (rm d) Q mc ms 0 0 (pc + 3) L st2 h0) : Vd own nm cc nL ret (rm d) Q mc ms 0 0 pc L stk h := by
  intro p l e s m args below meth c dC dI ac sk A ad0 n0 Qs E ad H locs ls N
  obtain ⟨f1, f2, f3, f4, f5, f6⟩ := f
  have hM := hM l dC dI ac sk ad H.size
  obtain ⟨q, hq1, hq2⟩ : ∃ q, vwCl[ci]? = some q ∧ q.1 = y.cls := by
    cases hc : vwCl[ci]? with
    | none => rw [hc] at hci; cases hci
    | some q => rw [hc] at hci; exact ⟨q, rfl, Option.some.inj hci⟩
  have hg : GoodIn gw (wsV own idx y.cls y (Cond.code y cy nLy rety :: gw)) := fun w hw => by
    rcases List.mem_append.mp hw with hw | hw
    · simp only [List.mem_cons, List.not_mem_nil, or_false] at hw
      rcases hw with rfl | rfl | rfl | rfl
      · exact gw_all _ f1
      · exact gw_all _ f2
      · exact gw_all _ f3
      · exact gw_all _ f4
    · exact gw_code f5 w hw
  obtain ⟨hx, hP, hD, hS, hl⟩ := N
  have hF := va_free hD hS E.2.1 (List.range h.length) (xw_idx (ad := ad) (sk := sk) (ac := ac))
  have hpre : ∀ U : State, U.heap = H → s.WarmedH U.vm → va_Pc ((Value.ref b :: As).map (xv ad sk)) (fun U => U.heap.size = H.size ∧ va_P (dC, dI) vwCl (xw ad sk ac h) U.heap ∧ va_K (dC, dI) vwCl (ab_ty ac) U ∧ va_D (fun _ => True) (xw ad sk ac h) ∧ SX sk (va_A (xw ad sk ac h) H.size) U U.heap) ((Value.ref b :: As).map (xv ad sk)).toArray U := fun U hU hW => ⟨rfl, by rw [hU], by rw [hU]; exact hP, va_K.moved hW.alike E.2.2.2.1, hD.weaken (fun _ _ _ _ => trivial), SX.move E.2.2.1 hS hW hU hF⟩
  subst hstk
  have run := va_runV (As := As.map (xv ad sk)) (rest := st.map (xv ad sk)) (b := ad b) (g := F0 m pc ls ((As.reverse ++ Value.ref b :: st).map (xv ad sk))) (locs := locs) (cells := 0) (slots := 0) (below := below) (meth := meth) (e := e) ⟨E.1.1, E.1.2.1, E.1.2.2.2.1, E.1.2.2.2.2.1, E.1.2.2.2.2.2.1⟩ hM (cwV np E.1.2.2.2.2.2.1 hg rfl rfl rfl ⟨rfl, f6.1, f6.2.1, f6.2.2⟩ (rm_ok hR hR2)) ⟨Mt.blind, by rw [← hq2]; exact va_recv E.2.2.2.1 hP hq1 (xw_of hb), hpre⟩ rfl (by rw [List.length_map]; exact hnp) hl.1 (by show List.map _ _ = _; simp [xv]) (lv_room (by rw [xv_cats]; exact Nat.le_of_ble_eq_true hcat)) hd ⟨Nat.le_refl _, Nat.le_refl _⟩
  intro T hT X
  obtain ⟨v, st₀, t, T', Lx, e0, X', hL, e1, e2, ⟨⟨v', h', ad', hv, hq, ⟨-, -, hy⟩, hP1, hD1⟩, hz, hk⟩, stp⟩ := run T hT X
  obtain ⟨rfl, rfl⟩ := hq
  have had := hy hlen
  subst had
  obtain rfl : v = v'.map (xv ad' sk) := by cases hv; rfl
  rw [e0] at hz hk
  rw [← e1] at hP1 hz hk
  have hS' : va_S A s.heap T'.heap (locs ++ Lx) := ⟨Nat.le_trans hS.1 hz, fun q h1 h2 => by rw [hk q (Nat.lt_of_lt_of_le h1 hS.1) (fun z => h2 (hF q z))]; exact hS.2.1 q h1 h2, fun q hq => by
      rcases List.mem_append.mp hq with h | h
      · exact hS.2.2 q h
      · exact hF _ (hL q h)⟩
  have w := kk p l e s m args below meth c dC dI ac sk A ad0 n0 Qs E ad' T'.heap (locs ++ Lx) ls ⟨⟨by rw [hlen]; exact hx.1, hx.2.1, by rw [hlen]; exact hx.2.2⟩, hP1, hD1.weaken (fun _ _ _ h => hF _ h), hS', hl⟩
  obtain ⟨t2, a1, b1⟩ := w T' rfl X'
  refine ⟨t2, stp t2 ?_, b1⟩
  have e9 : (v'.map (xv ad' sk)).toList ++ st.map (xv ad' sk) = st2.map (xv ad' sk) := by
    rw [← hst]
    cases v' <;> simp
  show Steps p.tables e below (T'.setTop { F0 m pc ls ((As.reverse ++ Value.ref b :: st).map (xv ad' sk)) with pc := pc + 3, stack := (v'.map (xv ad' sk)).toList ++ st.map (xv ad' sk) }) t2
  rw [e9]
  exact a1
end VSAME
end
section

/-! statics, texts, the JDK's copying -/
def ab_ch (i j : Nat) : Int32 := (ab_byt.getD i []).getD j 0
def MC (own : String) (idx : Nat) : Prop := Cond.methodLink own idx arraycopyName ∈ gw ∧ Cond.native arraycopyName ∈ gw ∧ Cond.static arraycopyName ∈ gw ∧ Cond.initialized "java/lang/System" ∈ gw
section VSPEC
variable {own nm : String} {cc : ByteArray} {nL : Nat} {ret : Option FieldType} {R : Room} {Q : Option Value → ab_H → Prop} {mc ms k n pc : Nat} {L : List (Nat × Value)} {st : List Value} {h : ab_H}
theorem v_ldcw {i : Nat} {v : Int32} (hd : decode cc pc = .ok (.ldc_w i, 3)) (hw : Cond.constant own i v ∈ gw) (kk : Vd own nm cc nL ret R Q mc ms k n (pc + 3) L (.int v :: st) h) : Vd own nm cc nL ret R Q mc ms k n pc L st h := by
  intro p l e s m args below meth c dC dI ac sk A ad0 n0 Qs E ad H locs ls N
  exact lv_ldcw E.1.1 E.1.2.1 E.1.2.2.2.2.1 (E.1.2.2.2.2.2.1 _ hw) hd (kk p l e s m args below meth c dC dI ac sk A ad0 n0 Qs E ad H locs ls N)
theorem v_gets {idx : Nat} (hd : decode cc pc = .ok (.getstatic idx, 3)) (hw : Cond.fieldLink own idx RX6 "FACTORIAL" "[I" ∈ gw) (kk : Vd own nm cc nL ret R Q mc ms k n (pc + 3) L (.retAddr 7 :: st) h) : Vd own nm cc nL ret R Q mc ms k n pc L st h := by
  intro p l e s m args below meth c dC dI ac sk A ad0 n0 Qs E ad H locs ls N
  obtain ⟨-, -, -, ⟨t, h0, h1, -⟩, -⟩ := E.2.2.1
  have k2 := (kk p l e s m args below meth c dC dI ac sk A ad0 n0 Qs E ad H locs ls N)
  have e1 : xv ad sk (.retAddr 7) = .ref t := by show va_rf (sk 7) = _; rw [h0]; rfl
  rw [List.map_cons, e1] at k2
  exact va_gets E.1.1 E.1.2.1 h1 N.2.2.2.1 E.1.2.2.2.2.1 (E.1.2.2.2.2.2.1 _ hw) (fun _ h9 => h9) hd k2
theorem v_tald {i : Int32} (hd : decode cc pc = .ok (.iaload, 1)) (hi : vp_in i 6) (kk : Vd own nm cc nL ret R Q mc ms k n (pc + 1) L (.int (ab_fac i.toNatClampNeg) :: st) h) : Vd own nm cc nL ret R Q mc ms k n pc L (.int i :: .retAddr 7 :: st) h := by
  intro p l e s m args below meth c dC dI ac sk A ad0 n0 Qs E ad H locs ls N
  obtain ⟨-, -, -, ⟨t, h0, -, h1⟩, -⟩ := E.2.2.1
  have e1 : xv ad sk (.retAddr 7) = .ref t := by show va_rf (sk 7) = _; rw [h0]; rfl
  rw [List.map_cons, List.map_cons, e1]
  exact va_ti E.1.1 E.1.2.1 h1 N.2.2.2.1 hi rfl hd (kk p l e s m args below meth c dC dI ac sk A ad0 n0 Qs E ad H locs ls N)
theorem v_ldcS {i idx : Nat} (hd : decode cc pc = .ok (.ldc idx, 2)) (hi : i < 7) (ho : own = RX5) (hx : (ab_str.getD i (0, "")).1 = idx) (kk : Vd own nm cc nL ret R Q mc ms k n (pc + 2) L (.retAddr i :: st) h) : Vd own nm cc nL ret R Q mc ms k n pc L st h := by
  intro p l e s m args below meth c dC dI ac sk A ad0 n0 Qs E ad H locs ls N
  obtain ⟨-, ⟨adK, adV, h2, -⟩, -⟩ := E.2.2.1
  obtain ⟨g1, -, g3⟩ := h2 i hi
  have k2 := (kk p l e s m args below meth c dC dI ac sk A ad0 n0 Qs E ad H locs ls N)
  have e1 : xv ad sk (.retAddr i) = .ref (adK i) := by show va_rf (sk i) = _; rw [g1]; rfl
  rw [List.map_cons, e1] at k2
  rw [hx, ← ho] at g3
  exact va_ldcS E.1.1 E.1.2.1 E.1.2.2.2.2.1 g3 hd k2
theorem v_copy {d idx a b n0 n1 t : Nat} {f g : Nat → Int32} {sp dp ln : Int32} {zs zd zn : Nat} {h2 : ab_H} (hd : decode cc pc = .ok (.invokestatic idx, 3)) (w : MC own idx) (hdd : 1 ≤ d) (hcat : Nat.ble (st.map fun v => v.category).sum 8 = true) (ha : h[a]? = some (aI 0 n0 f)) (hb : h[b]? = some (aI 0 n1 g)) (h1 : ¬ sp < 0) (h3 : ¬ dp < 0) (h4 : ¬ ln < 0) (e1 : sp.toNatClampNeg = zs) (e2 : dp.toNatClampNeg = zd) (e3 : ln.toNatClampNeg = zn) (h5 : zs + zn ≤ n0) (h6 : zd + zn ≤ n1) (he : h.set b (aI 0 n1 (va_cpy f g zs zd zn)) = h2) (kk : Vd own nm cc nL ret (rm d) Q mc ms k n (pc + 3) L st h2) : Vd own nm cc nL ret (rm d) Q mc ms k n pc L (.int ln :: .int dp :: .ref b :: .int sp :: .ref a :: st) h := by
  intro p l e s m args below meth c dC dI ac sk A ad0 n0 Qs E ad H locs ls N
  subst e1; subst e2; subst e3; subst he
  refine va_copyi (ty := .int) E.1.1 E.1.2.1 (E.1.2.2.2.1.trans N.2.2.2.2.1.symm) E.1.2.2.2.2.1 (E.1.2.2.2.2.2.1 _ w.1) (E.1.2.2.2.2.2.1 _ w.2.1) (E.1.2.2.2.2.2.1 _ w.2.2.1) (E.1.2.2.2.2.2.1 _ w.2.2.2) E.2.2.2.1 N.2.1 N.2.2.1 N.2.2.2.1 a b 0 0 (xw_of ha) (xw_of hb) rfl rfl rfl h1 h3 h4 h5 h6 (fun _ _ => rfl) hdd ?_ hd (fun H1 locs1 hP hD hS => ?_)
  · rw [xv_cats]
    have := Nat.le_of_ble_eq_true hcat
    have e : nativeFrameWords "java/lang/System" "arraycopy" 5 = 7 := by decide
    rw [e]
    show _ ≤ 35 * d
    omega
  · exact kk p l e s m args below meth c dC dI ac sk A ad0 n0 Qs E ad H1 locs1 ls (N.upd (c := aI 0 n1 (va_cpy f g sp.toNatClampNeg dp.toNatClampNeg ln.toNatClampNeg)) hP hD hS)
/-! texts -/
theorem v_sval {i idx : Nat} (hd : decode cc pc = .ok (.getfield idx, 3)) (hi : i < 7) (hw : Cond.fieldLink own idx "java/lang/String" "value" "[B" ∈ gw) (kk : Vd own nm cc nL ret R Q mc ms k n (pc + 3) L (.retAddr (8 + i) :: st) h) : Vd own nm cc nL ret R Q mc ms k n pc L (.retAddr i :: st) h := by
  intro p l e s m args below meth c dC dI ac sk A ad0 n0 Qs E ad H locs ls N
  obtain ⟨-, ⟨adK, adV, h2, h3⟩, -⟩ := E.2.2.1
  obtain ⟨g1, g2, -⟩ := h2 i hi
  have k2 := (kk p l e s m args below meth c dC dI ac sk A ad0 n0 Qs E ad H locs ls N)
  have e1 : xv ad sk (.retAddr i) = .ref (adK i) := by show va_rf (sk i) = _; rw [g1]; rfl
  have e2 : xv ad sk (.retAddr (8 + i)) = .ref (adV i) := by show va_rf (sk (8 + i)) = _; rw [g2]; rfl
  rw [List.map_cons, e2] at k2
  rw [List.map_cons, e1]
  exact vk_getf E.1.1 E.1.2.1 (h3.1 i hi).2.2.1 N.2.2.2.1 E.1.2.2.2.2.1 (E.1.2.2.2.2.2.1 _ hw) (fun _ h9 => h9) hd k2
theorem v_scod {i idx : Nat} (hd : decode cc pc = .ok (.getfield idx, 3)) (hi : i < 7) (hw : Cond.fieldLink own idx "java/lang/String" "coder" "B" ∈ gw) (kk : Vd own nm cc nL ret R Q mc ms k n (pc + 3) L (.int 0 :: st) h) : Vd own nm cc nL ret R Q mc ms k n pc L (.retAddr i :: st) h := by
  intro p l e s m args below meth c dC dI ac sk A ad0 n0 Qs E ad H locs ls N
  obtain ⟨-, ⟨adK, adV, h2, h3⟩, -⟩ := E.2.2.1
  obtain ⟨g1, g2, -⟩ := h2 i hi
  have e1 : xv ad sk (.retAddr i) = .ref (adK i) := by show va_rf (sk i) = _; rw [g1]; rfl
  rw [List.map_cons, e1]
  exact vk_getf E.1.1 E.1.2.1 (h3.1 i hi).2.1 N.2.2.2.1 E.1.2.2.2.2.1 (E.1.2.2.2.2.2.1 _ hw) (fun _ h9 => h9) hd (kk p l e s m args below meth c dC dI ac sk A ad0 n0 Qs E ad H locs ls N)
theorem v_slen {i : Nat} (hd : decode cc pc = .ok (.arraylength, 1)) (hi : i < 7) (kk : Vd own nm cc nL ret R Q mc ms k n (pc + 1) L (.int (Int32.ofNat (ab_len.getD i 0)) :: st) h) : Vd own nm cc nL ret R Q mc ms k n pc L (.retAddr (8 + i) :: st) h := by
  intro p l e s m args below meth c dC dI ac sk A ad0 n0 Qs E ad H locs ls N
  obtain ⟨-, ⟨adK, adV, h2, h3⟩, -⟩ := E.2.2.1
  obtain ⟨g1, g2, -⟩ := h2 i hi
  have e2 : xv ad sk (.retAddr (8 + i)) = .ref (adV i) := by show va_rf (sk (8 + i)) = _; rw [g2]; rfl
  rw [List.map_cons, e2]
  exact va_tlen E.1.1 E.1.2.1 (h3.1 i hi).2.2.2 N.2.2.2.1 rfl hd (kk p l e s m args below meth c dC dI ac sk A ad0 n0 Qs E ad H locs ls N)
theorem v_sbald {i : Nat} {j : Int32} (hd : decode cc pc = .ok (.baload, 1)) (hi : i < 7) (hj : vp_in j (ab_len.getD i 0)) (kk : Vd own nm cc nL ret R Q mc ms k n (pc + 1) L (.int (ab_ch i j.toNatClampNeg) :: st) h) : Vd own nm cc nL ret R Q mc ms k n pc L (.int j :: .retAddr (8 + i) :: st) h := by
  intro p l e s m args below meth c dC dI ac sk A ad0 n0 Qs E ad H locs ls N
  obtain ⟨-, ⟨adK, adV, h2, h3⟩, -⟩ := E.2.2.1
  obtain ⟨g1, g2, -⟩ := h2 i hi
  have e2 : xv ad sk (.retAddr (8 + i)) = .ref (adV i) := by show va_rf (sk (8 + i)) = _; rw [g2]; rfl
  rw [List.map_cons, List.map_cons, e2]
  exact va_tb E.1.1 E.1.2.1 (h3.1 i hi).2.2.2 N.2.2.2.1 hj rfl hd (kk p l e s m args below meth c dC dI ac sk A ad0 n0 Qs E ad H locs ls N)
theorem v_getsC {idx : Nat} (hd : decode cc pc = .ok (.getstatic idx, 3)) (hw : Cond.fieldLink own idx "java/lang/String" "COMPACT_STRINGS" "Z" ∈ gw) (kk : Vd own nm cc nL ret R Q mc ms k n (pc + 3) L (.int 1 :: st) h) : Vd own nm cc nL ret R Q mc ms k n pc L st h := by
  intro p l e s m args below meth c dC dI ac sk A ad0 n0 Qs E ad H locs ls N
  exact va_gets E.1.1 E.1.2.1 E.2.2.1.2.2.1 N.2.2.2.1 E.1.2.2.2.2.1 (E.1.2.2.2.2.2.1 _ hw) (fun _ h9 => h9) hd (kk p l e s m args below meth c dC dI ac sk A ad0 n0 Qs E ad H locs ls N)
theorem v_getsP {idx : Nat} (hd : decode cc pc = .ok (.getstatic idx, 3)) (hw : Cond.fieldLink own idx "jdk/internal/util/Preconditions" "SIOOBE_FORMATTER" "Ljava/util/function/BiFunction;" ∈ gw) (kk : Vd own nm cc nL ret R Q mc ms k n (pc + 3) L (.retAddr 15 :: st) h) : Vd own nm cc nL ret R Q mc ms k n pc L st h := by
  intro p l e s m args below meth c dC dI ac sk A ad0 n0 Qs E ad H locs ls N
  exact va_gets E.1.1 E.1.2.1 E.2.2.1.2.2.2.2.1 N.2.2.2.1 E.1.2.2.2.2.1 (E.1.2.2.2.2.2.1 _ hw) (fun _ h9 => h9) hd (kk p l e s m args below meth c dC dI ac sk A ad0 n0 Qs E ad H locs ls N)
theorem v_i2c {x : Int32} (hd : decode cc pc = .ok (.i2c, 1)) (kk : Vd own nm cc nL ret R Q mc ms k n (pc + 1) L (.int (x.toUInt32 % 65536).toInt32 :: st) h) : Vd own nm cc nL ret R Q mc ms k n pc L (.int x :: st) h := by
  intro p l e s m args below meth c dC dI ac sk A ad0 n0 Qs E ad H locs ls N
  exact lv_i2c E.1.1 E.1.2.1 hd rfl (kk p l e s m args below meth c dC dI ac sk A ad0 n0 Qs E ad H locs ls N)
variable {y : MethodName} {cy : ByteArray} {nLy : Nat} {rety : Option FieldType} {As : List Value} {v0 : Option Value} {d dy : Nat} {st2 : List Value}
set_option maxHeartbeats 4000000 in
/-- an instance method of a text -/
theorem v_cT {idx np i : Nat} {stk : List Value} (hd : decode cc pc = .ok (.invokevirtual idx, 3)) (f : MV own idx y cy nLy rety np) (hM : Mt y cy nLy rety (rm dy) (.retAddr i :: As) [] (ab_eq v0 [])) (hAs : ∀ v ∈ As, rv (ab_r []) v = v) (hv0 : v0.map (rv (ab_r [])) = v0) (hstk : stk = As.reverse ++ .retAddr i :: st) (hnp : As.length = np) (hi : i < 7) (hy : y.cls = "java/lang/String") (hcat : Nat.ble (st.map fun v => v.category).sum 8 = true) (hR : dy + 1 ≤ d) (hR2 : nLy ≤ 16) (hst : v0.toList ++ st = st2) (kk : Vd own nm cc nL ret (rm d) Q mc ms 0 0 (pc + 3) L st2 h) : Vd own nm cc nL ret (rm d) Q mc ms 0 0 pc L stk h := by
  intro p l e s m args below meth c dC dI ac sk A ad0 n0 Qs E ad H locs ls N
  obtain ⟨f1, f2, f3, f4, f5, f6⟩ := f
  have hM := hM l dC dI ac sk (fun i => ad (ab_r [] i)) H.size
  have hg : GoodIn gw (wsV own idx y.cls y (Cond.code y cy nLy rety :: gw)) := fun w hw => by
    rcases List.mem_append.mp hw with hw | hw
    · simp only [List.mem_cons, List.not_mem_nil, or_false] at hw
      rcases hw with rfl | rfl | rfl | rfl
      · exact gw_all _ f1
      · exact gw_all _ f2
      · exact gw_all _ f3
      · exact gw_all _ f4
    · exact gw_code f5 w hw
  have ha : (Value.retAddr i :: As).map (rv (ab_r [])) = Value.retAddr i :: As := by
    rw [List.map_cons]
    congr 1
    exact (List.map_congr_left hAs).trans (List.map_id As)
  have hpre := Mt.pre E N [] (hs := []) rfl rfl ha
  obtain ⟨-, ⟨adK, adV, q2, q3⟩, -⟩ := E.2.2.1
  obtain ⟨g1, -, -⟩ := q2 i hi
  have e1 : xv ad sk (.retAddr i) = .ref (adK i) := by show va_rf (sk i) = _; rw [g1]; rfl
  rw [show (Value.retAddr i :: As).map (xv ad sk) = Value.ref (adK i) :: As.map (xv ad sk) by rw [List.map_cons, e1]] at hpre
  subst hstk
  refine ab_cont E N [] (hs := []) rfl rfl (Qc := ab_eq v0 []) (va_runV (As := As.map (xv ad sk)) (rest := st.map (xv ad sk)) (b := adK i) (C := y.cls) ⟨E.1.1, E.1.2.1, E.1.2.2.2.1, E.1.2.2.2.2.1, E.1.2.2.2.2.2.1⟩ hM (cwV np E.1.2.2.2.2.2.1 hg rfl rfl rfl ⟨rfl, f6.1, f6.2.1, f6.2.2⟩ (rm_ok hR hR2)) ⟨Mt.blind, ?_, hpre⟩ rfl (by rw [List.length_map]; exact hnp) N.2.2.2.2.1 (by show List.map _ _ = _; simp [e1]) (lv_room (by rw [xv_cats]; exact Nat.le_of_ble_eq_true hcat)) hd ⟨Nat.le_refl _, Nat.le_refl _⟩) (fun v h' hq => by rw [hq.2]) (fun v h' hq => ?_)
  · rw [hy]
    exact vk_recv q3 hi N.2.2.2.1
  · rw [hq.1, hq.2, hv0, hst]
    exact kk
end VSPEC
end
