section
-- ===== PART A: goes FIRST, ahead of the names: the tables' words, and 'selects' of the private methods out of them =====
/-- a private method of a class that the tables say can be made, by its rows of tables_1 -/
def lw_okq (q : MethodName × Nat) : Prop := (q.1.cls ≠ "java/lang/invoke/MethodHandle" ∧ q.1.cls ≠ "java/lang/invoke/VarHandle") ∧ Cond.instantiable q.1.cls q.2 ∈ tables_1 ∧ Cond.privateMethod q.1 ∈ tables_1 ∧ Cond.instanceMethod q.1 ∈ tables_1
theorem lw_p0 : lw_okq (⟨"FireLeave$Tape", "signAt", "(I)I"⟩, 4) := ⟨⟨by decide +kernel, by decide +kernel⟩, List.mem_of_getElem? (i := 32) (by decide +kernel), List.mem_of_getElem? (i := 283) (by decide +kernel), List.mem_of_getElem? (i := 284) (by decide +kernel)⟩
theorem lw_p1 : lw_okq (⟨"FireLeave$TextReader", "takeLine", "(I)V"⟩, 9) := ⟨⟨by decide +kernel, by decide +kernel⟩, List.mem_of_getElem? (i := 26) (by decide +kernel), List.mem_of_getElem? (i := 287) (by decide +kernel), List.mem_of_getElem? (i := 288) (by decide +kernel)⟩
theorem lw_p2 : lw_okq (⟨"FireLeave$TextReader", "lineByName", "()I"⟩, 9) := ⟨⟨by decide +kernel, by decide +kernel⟩, List.mem_of_getElem? (i := 26) (by decide +kernel), List.mem_of_getElem? (i := 291) (by decide +kernel), List.mem_of_getElem? (i := 292) (by decide +kernel)⟩
theorem lw_p3 : lw_okq (⟨"FireLeave$TextReader", "refuseToken", "(I)V"⟩, 9) := ⟨⟨by decide +kernel, by decide +kernel⟩, List.mem_of_getElem? (i := 26) (by decide +kernel), List.mem_of_getElem? (i := 354) (by decide +kernel), List.mem_of_getElem? (i := 355) (by decide +kernel)⟩
theorem lw_p4 : lw_okq (⟨"FireLeave$TextReader", "fail", "(II)V"⟩, 9) := ⟨⟨by decide +kernel, by decide +kernel⟩, List.mem_of_getElem? (i := 26) (by decide +kernel), List.mem_of_getElem? (i := 358) (by decide +kernel), List.mem_of_getElem? (i := 359) (by decide +kernel)⟩
theorem lw_p5 : lw_okq (⟨"FireLeave$TextReader", "takeFire", "()V"⟩, 9) := ⟨⟨by decide +kernel, by decide +kernel⟩, List.mem_of_getElem? (i := 26) (by decide +kernel), List.mem_of_getElem? (i := 362) (by decide +kernel), List.mem_of_getElem? (i := 363) (by decide +kernel)⟩
theorem lw_p6 : lw_okq (⟨"FireLeave$TextReader", "takeNumber", "(II)I"⟩, 9) := ⟨⟨by decide +kernel, by decide +kernel⟩, List.mem_of_getElem? (i := 26) (by decide +kernel), List.mem_of_getElem? (i := 366) (by decide +kernel), List.mem_of_getElem? (i := 367) (by decide +kernel)⟩
theorem lw_p7 : lw_okq (⟨"FireLeave$TextReader", "takeRain", "()V"⟩, 9) := ⟨⟨by decide +kernel, by decide +kernel⟩, List.mem_of_getElem? (i := 26) (by decide +kernel), List.mem_of_getElem? (i := 375) (by decide +kernel), List.mem_of_getElem? (i := 376) (by decide +kernel)⟩
theorem lw_p8 : lw_okq (⟨"FireLeave$TextReader", "takeOffer", "()V"⟩, 9) := ⟨⟨by decide +kernel, by decide +kernel⟩, List.mem_of_getElem? (i := 26) (by decide +kernel), List.mem_of_getElem? (i := 379) (by decide +kernel), List.mem_of_getElem? (i := 380) (by decide +kernel)⟩
theorem lw_p9 : lw_okq (⟨"FireLeave$TextReader", "takeHouse", "(I)V"⟩, 9) := ⟨⟨by decide +kernel, by decide +kernel⟩, List.mem_of_getElem? (i := 26) (by decide +kernel), List.mem_of_getElem? (i := 383) (by decide +kernel), List.mem_of_getElem? (i := 384) (by decide +kernel)⟩
theorem lw_p10 : lw_okq (⟨"FireLeave$TextReader", "takeStop", "()V"⟩, 9) := ⟨⟨by decide +kernel, by decide +kernel⟩, List.mem_of_getElem? (i := 26) (by decide +kernel), List.mem_of_getElem? (i := 391) (by decide +kernel), List.mem_of_getElem? (i := 392) (by decide +kernel)⟩
theorem lw_p11 : lw_okq (⟨"FireLeave$TextReader", "checkHouses", "()V"⟩, 9) := ⟨⟨by decide +kernel, by decide +kernel⟩, List.mem_of_getElem? (i := 26) (by decide +kernel), List.mem_of_getElem? (i := 395) (by decide +kernel), List.mem_of_getElem? (i := 396) (by decide +kernel)⟩
theorem lw_p12 : lw_okq (⟨"FireLeave$TextReader", "makeOffers", "()V"⟩, 9) := ⟨⟨by decide +kernel, by decide +kernel⟩, List.mem_of_getElem? (i := 26) (by decide +kernel), List.mem_of_getElem? (i := 403) (by decide +kernel), List.mem_of_getElem? (i := 404) (by decide +kernel)⟩
theorem lw_p13 : lw_okq (⟨"FireLeave$City", "give", "(II)V"⟩, 12) := ⟨⟨by decide +kernel, by decide +kernel⟩, List.mem_of_getElem? (i := 55) (by decide +kernel), List.mem_of_getElem? (i := 413) (by decide +kernel), List.mem_of_getElem? (i := 414) (by decide +kernel)⟩
theorem lw_p14 : lw_okq (⟨"FireLeave$City", "burn", "(II)I"⟩, 12) := ⟨⟨by decide +kernel, by decide +kernel⟩, List.mem_of_getElem? (i := 55) (by decide +kernel), List.mem_of_getElem? (i := 480) (by decide +kernel), List.mem_of_getElem? (i := 481) (by decide +kernel)⟩
theorem lw_p15 : lw_okq (⟨"FireLeave", "startTrial", "()V"⟩, 10) := ⟨⟨by decide +kernel, by decide +kernel⟩, List.mem_of_getElem? (i := 18) (by decide +kernel), List.mem_of_getElem? (i := 488) (by decide +kernel), List.mem_of_getElem? (i := 489) (by decide +kernel)⟩
def lw_privs_1 : List (MethodName × Nat) := [(⟨"FireLeave$Tape", "signAt", "(I)I"⟩, 4), (⟨"FireLeave$TextReader", "takeLine", "(I)V"⟩, 9), (⟨"FireLeave$TextReader", "lineByName", "()I"⟩, 9), (⟨"FireLeave$TextReader", "refuseToken", "(I)V"⟩, 9), (⟨"FireLeave$TextReader", "fail", "(II)V"⟩, 9), (⟨"FireLeave$TextReader", "takeFire", "()V"⟩, 9), (⟨"FireLeave$TextReader", "takeNumber", "(II)I"⟩, 9), (⟨"FireLeave$TextReader", "takeRain", "()V"⟩, 9), (⟨"FireLeave$TextReader", "takeOffer", "()V"⟩, 9), (⟨"FireLeave$TextReader", "takeHouse", "(I)V"⟩, 9), (⟨"FireLeave$TextReader", "takeStop", "()V"⟩, 9), (⟨"FireLeave$TextReader", "checkHouses", "()V"⟩, 9), (⟨"FireLeave$TextReader", "makeOffers", "()V"⟩, 9), (⟨"FireLeave$City", "give", "(II)V"⟩, 12), (⟨"FireLeave$City", "burn", "(II)I"⟩, 12), (⟨"FireLeave", "startTrial", "()V"⟩, 10)]
theorem lw_r1 : ∀ q ∈ lw_privs_1, lw_okq q := List.forall_mem_cons.mpr ⟨lw_p0, List.forall_mem_cons.mpr ⟨lw_p1, List.forall_mem_cons.mpr ⟨lw_p2, List.forall_mem_cons.mpr ⟨lw_p3, List.forall_mem_cons.mpr ⟨lw_p4, List.forall_mem_cons.mpr ⟨lw_p5, List.forall_mem_cons.mpr ⟨lw_p6, List.forall_mem_cons.mpr ⟨lw_p7, List.forall_mem_cons.mpr ⟨lw_p8, List.forall_mem_cons.mpr ⟨lw_p9, List.forall_mem_cons.mpr ⟨lw_p10, List.forall_mem_cons.mpr ⟨lw_p11, List.forall_mem_cons.mpr ⟨lw_p12, List.forall_mem_cons.mpr ⟨lw_p13, List.forall_mem_cons.mpr ⟨lw_p14, List.forall_mem_cons.mpr ⟨lw_p15, fun _ h => absurd h List.not_mem_nil⟩⟩⟩⟩⟩⟩⟩⟩⟩⟩⟩⟩⟩⟩⟩⟩
theorem lw_p16 : lw_okq (⟨"FireLeave", "lossByKinds", "(II)I"⟩, 10) := ⟨⟨by decide +kernel, by decide +kernel⟩, List.mem_of_getElem? (i := 18) (by decide +kernel), List.mem_of_getElem? (i := 516) (by decide +kernel), List.mem_of_getElem? (i := 517) (by decide +kernel)⟩
theorem lw_p17 : lw_okq (⟨"FireLeave", "lossAsItIs", "(I)I"⟩, 10) := ⟨⟨by decide +kernel, by decide +kernel⟩, List.mem_of_getElem? (i := 18) (by decide +kernel), List.mem_of_getElem? (i := 537) (by decide +kernel), List.mem_of_getElem? (i := 538) (by decide +kernel)⟩
theorem lw_p18 : lw_okq (⟨"FireLeave", "playWith", "(III)LFireLeave$City;"⟩, 10) := ⟨⟨by decide +kernel, by decide +kernel⟩, List.mem_of_getElem? (i := 18) (by decide +kernel), List.mem_of_getElem? (i := 541) (by decide +kernel), List.mem_of_getElem? (i := 542) (by decide +kernel)⟩
theorem lw_p19 : lw_okq (⟨"FireLeave", "oddsOfOut", "(II)J"⟩, 10) := ⟨⟨by decide +kernel, by decide +kernel⟩, List.mem_of_getElem? (i := 18) (by decide +kernel), List.mem_of_getElem? (i := 594) (by decide +kernel), List.mem_of_getElem? (i := 595) (by decide +kernel)⟩
theorem lw_p20 : lw_okq (⟨"FireLeave", "tryKinds", "(II)V"⟩, 10) := ⟨⟨by decide +kernel, by decide +kernel⟩, List.mem_of_getElem? (i := 18) (by decide +kernel), List.mem_of_getElem? (i := 626) (by decide +kernel), List.mem_of_getElem? (i := 627) (by decide +kernel)⟩
theorem lw_p21 : lw_okq (⟨"FireLeave", "tallyFitting", "()I"⟩, 10) := ⟨⟨by decide +kernel, by decide +kernel⟩, List.mem_of_getElem? (i := 18) (by decide +kernel), List.mem_of_getElem? (i := 642) (by decide +kernel), List.mem_of_getElem? (i := 643) (by decide +kernel)⟩
theorem lw_p22 : lw_okq (⟨"FireLeave", "mostInRow", "(I)I"⟩, 10) := ⟨⟨by decide +kernel, by decide +kernel⟩, List.mem_of_getElem? (i := 18) (by decide +kernel), List.mem_of_getElem? (i := 647) (by decide +kernel), List.mem_of_getElem? (i := 648) (by decide +kernel)⟩
theorem lw_p23 : lw_okq (⟨"FireLeave", "imagesKept", "()I"⟩, 10) := ⟨⟨by decide +kernel, by decide +kernel⟩, List.mem_of_getElem? (i := 18) (by decide +kernel), List.mem_of_getElem? (i := 722) (by decide +kernel), List.mem_of_getElem? (i := 723) (by decide +kernel)⟩
theorem lw_p24 : lw_okq (⟨"FireLeaveModel", "firstDraft", "()V"⟩, 28) := ⟨⟨by decide +kernel, by decide +kernel⟩, List.mem_of_getElem? (i := 726) (by decide +kernel), List.mem_of_getElem? (i := 732) (by decide +kernel), List.mem_of_getElem? (i := 733) (by decide +kernel)⟩
theorem lw_p25 : lw_okq (⟨"FireLeaveModel", "keepDraft", "()V"⟩, 28) := ⟨⟨by decide +kernel, by decide +kernel⟩, List.mem_of_getElem? (i := 726) (by decide +kernel), List.mem_of_getElem? (i := 736) (by decide +kernel), List.mem_of_getElem? (i := 737) (by decide +kernel)⟩
theorem lw_p26 : lw_okq (⟨"FireLeaveModel", "next", "()V"⟩, 28) := ⟨⟨by decide +kernel, by decide +kernel⟩, List.mem_of_getElem? (i := 726) (by decide +kernel), List.mem_of_getElem? (i := 842) (by decide +kernel), List.mem_of_getElem? (i := 843) (by decide +kernel)⟩
theorem lw_p27 : lw_okq (⟨"FireLeaveModel", "byteAt", "(I)I"⟩, 28) := ⟨⟨by decide +kernel, by decide +kernel⟩, List.mem_of_getElem? (i := 726) (by decide +kernel), List.mem_of_getElem? (i := 846) (by decide +kernel), List.mem_of_getElem? (i := 847) (by decide +kernel)⟩
theorem lw_p28 : lw_okq (⟨"FireLeaveModel", "needs", "(ZI)V"⟩, 28) := ⟨⟨by decide +kernel, by decide +kernel⟩, List.mem_of_getElem? (i := 726) (by decide +kernel), List.mem_of_getElem? (i := 854) (by decide +kernel), List.mem_of_getElem? (i := 855) (by decide +kernel)⟩
theorem lw_p29 : lw_okq (⟨"FireLeaveModel", "readLine", "()V"⟩, 28) := ⟨⟨by decide +kernel, by decide +kernel⟩, List.mem_of_getElem? (i := 726) (by decide +kernel), List.mem_of_getElem? (i := 858) (by decide +kernel), List.mem_of_getElem? (i := 859) (by decide +kernel)⟩
theorem lw_p30 : lw_okq (⟨"FireLeaveModel", "lineNow", "()I"⟩, 28) := ⟨⟨by decide +kernel, by decide +kernel⟩, List.mem_of_getElem? (i := 726) (by decide +kernel), List.mem_of_getElem? (i := 862) (by decide +kernel), List.mem_of_getElem? (i := 863) (by decide +kernel)⟩
theorem lw_p31 : lw_okq (⟨"FireLeaveModel", "is", "(IIII)Z"⟩, 28) := ⟨⟨by decide +kernel, by decide +kernel⟩, List.mem_of_getElem? (i := 726) (by decide +kernel), List.mem_of_getElem? (i := 866) (by decide +kernel), List.mem_of_getElem? (i := 867) (by decide +kernel)⟩
def lw_privs_2 : List (MethodName × Nat) := [(⟨"FireLeave", "lossByKinds", "(II)I"⟩, 10), (⟨"FireLeave", "lossAsItIs", "(I)I"⟩, 10), (⟨"FireLeave", "playWith", "(III)LFireLeave$City;"⟩, 10), (⟨"FireLeave", "oddsOfOut", "(II)J"⟩, 10), (⟨"FireLeave", "tryKinds", "(II)V"⟩, 10), (⟨"FireLeave", "tallyFitting", "()I"⟩, 10), (⟨"FireLeave", "mostInRow", "(I)I"⟩, 10), (⟨"FireLeave", "imagesKept", "()I"⟩, 10), (⟨"FireLeaveModel", "firstDraft", "()V"⟩, 28), (⟨"FireLeaveModel", "keepDraft", "()V"⟩, 28), (⟨"FireLeaveModel", "next", "()V"⟩, 28), (⟨"FireLeaveModel", "byteAt", "(I)I"⟩, 28), (⟨"FireLeaveModel", "needs", "(ZI)V"⟩, 28), (⟨"FireLeaveModel", "readLine", "()V"⟩, 28), (⟨"FireLeaveModel", "lineNow", "()I"⟩, 28), (⟨"FireLeaveModel", "is", "(IIII)Z"⟩, 28)]
theorem lw_r2 : ∀ q ∈ lw_privs_2, lw_okq q := List.forall_mem_cons.mpr ⟨lw_p16, List.forall_mem_cons.mpr ⟨lw_p17, List.forall_mem_cons.mpr ⟨lw_p18, List.forall_mem_cons.mpr ⟨lw_p19, List.forall_mem_cons.mpr ⟨lw_p20, List.forall_mem_cons.mpr ⟨lw_p21, List.forall_mem_cons.mpr ⟨lw_p22, List.forall_mem_cons.mpr ⟨lw_p23, List.forall_mem_cons.mpr ⟨lw_p24, List.forall_mem_cons.mpr ⟨lw_p25, List.forall_mem_cons.mpr ⟨lw_p26, List.forall_mem_cons.mpr ⟨lw_p27, List.forall_mem_cons.mpr ⟨lw_p28, List.forall_mem_cons.mpr ⟨lw_p29, List.forall_mem_cons.mpr ⟨lw_p30, List.forall_mem_cons.mpr ⟨lw_p31, fun _ h => absurd h List.not_mem_nil⟩⟩⟩⟩⟩⟩⟩⟩⟩⟩⟩⟩⟩⟩⟩⟩
theorem lw_p32 : lw_okq (⟨"FireLeaveModel", "ends", "(III)Z"⟩, 28) := ⟨⟨by decide +kernel, by decide +kernel⟩, List.mem_of_getElem? (i := 726) (by decide +kernel), List.mem_of_getElem? (i := 870) (by decide +kernel), List.mem_of_getElem? (i := 871) (by decide +kernel)⟩
theorem lw_p33 : lw_okq (⟨"FireLeaveModel", "readLineOf", "(I)V"⟩, 28) := ⟨⟨by decide +kernel, by decide +kernel⟩, List.mem_of_getElem? (i := 726) (by decide +kernel), List.mem_of_getElem? (i := 874) (by decide +kernel), List.mem_of_getElem? (i := 875) (by decide +kernel)⟩
theorem lw_p34 : lw_okq (⟨"FireLeaveModel", "readHouse", "()I"⟩, 28) := ⟨⟨by decide +kernel, by decide +kernel⟩, List.mem_of_getElem? (i := 726) (by decide +kernel), List.mem_of_getElem? (i := 878) (by decide +kernel), List.mem_of_getElem? (i := 879) (by decide +kernel)⟩
theorem lw_p35 : lw_okq (⟨"FireLeaveModel", "readNumber", "(II)I"⟩, 28) := ⟨⟨by decide +kernel, by decide +kernel⟩, List.mem_of_getElem? (i := 726) (by decide +kernel), List.mem_of_getElem? (i := 882) (by decide +kernel), List.mem_of_getElem? (i := 883) (by decide +kernel)⟩
theorem lw_p36 : lw_okq (⟨"FireLeaveModel", "looked", "(II)I"⟩, 28) := ⟨⟨by decide +kernel, by decide +kernel⟩, List.mem_of_getElem? (i := 726) (by decide +kernel), List.mem_of_getElem? (i := 886) (by decide +kernel), List.mem_of_getElem? (i := 887) (by decide +kernel)⟩
theorem lw_p37 : lw_okq (⟨"FireLeaveModel", "readRain", "()V"⟩, 28) := ⟨⟨by decide +kernel, by decide +kernel⟩, List.mem_of_getElem? (i := 726) (by decide +kernel), List.mem_of_getElem? (i := 890) (by decide +kernel), List.mem_of_getElem? (i := 891) (by decide +kernel)⟩
theorem lw_p38 : lw_okq (⟨"FireLeaveModel", "offersCome", "()V"⟩, 28) := ⟨⟨by decide +kernel, by decide +kernel⟩, List.mem_of_getElem? (i := 726) (by decide +kernel), List.mem_of_getElem? (i := 894) (by decide +kernel), List.mem_of_getElem? (i := 895) (by decide +kernel)⟩
theorem lw_p39 : lw_okq (⟨"FireLeaveModel", "starts", "()V"⟩, 28) := ⟨⟨by decide +kernel, by decide +kernel⟩, List.mem_of_getElem? (i := 726) (by decide +kernel), List.mem_of_getElem? (i := 906) (by decide +kernel), List.mem_of_getElem? (i := 907) (by decide +kernel)⟩
theorem lw_p40 : lw_okq (⟨"FireLeaveModel", "allOf", "(I)I"⟩, 28) := ⟨⟨by decide +kernel, by decide +kernel⟩, List.mem_of_getElem? (i := 726) (by decide +kernel), List.mem_of_getElem? (i := 910) (by decide +kernel), List.mem_of_getElem? (i := 911) (by decide +kernel)⟩
theorem lw_p41 : lw_okq (⟨"FireLeaveModel", "isHouse", "(I)Z"⟩, 28) := ⟨⟨by decide +kernel, by decide +kernel⟩, List.mem_of_getElem? (i := 726) (by decide +kernel), List.mem_of_getElem? (i := 918) (by decide +kernel), List.mem_of_getElem? (i := 919) (by decide +kernel)⟩
theorem lw_p42 : lw_okq (⟨"FireLeaveModel", "becomes", "(II)I"⟩, 28) := ⟨⟨by decide +kernel, by decide +kernel⟩, List.mem_of_getElem? (i := 726) (by decide +kernel), List.mem_of_getElem? (i := 932) (by decide +kernel), List.mem_of_getElem? (i := 933) (by decide +kernel)⟩
theorem lw_p43 : lw_okq (⟨"FireLeaveModel", "gives", "(II)V"⟩, 28) := ⟨⟨by decide +kernel, by decide +kernel⟩, List.mem_of_getElem? (i := 726) (by decide +kernel), List.mem_of_getElem? (i := 951) (by decide +kernel), List.mem_of_getElem? (i := 952) (by decide +kernel)⟩
theorem lw_p44 : lw_okq (⟨"FireLeaveModel", "settles", "()V"⟩, 28) := ⟨⟨by decide +kernel, by decide +kernel⟩, List.mem_of_getElem? (i := 726) (by decide +kernel), List.mem_of_getElem? (i := 955) (by decide +kernel), List.mem_of_getElem? (i := 956) (by decide +kernel)⟩
theorem lw_p45 : lw_okq (⟨"FireLeaveModel", "nightsGo", "(I)V"⟩, 28) := ⟨⟨by decide +kernel, by decide +kernel⟩, List.mem_of_getElem? (i := 726) (by decide +kernel), List.mem_of_getElem? (i := 964) (by decide +kernel), List.mem_of_getElem? (i := 965) (by decide +kernel)⟩
theorem lw_p46 : lw_okq (⟨"FireLeaveModel", "nightGoes", "()V"⟩, 28) := ⟨⟨by decide +kernel, by decide +kernel⟩, List.mem_of_getElem? (i := 726) (by decide +kernel), List.mem_of_getElem? (i := 968) (by decide +kernel), List.mem_of_getElem? (i := 969) (by decide +kernel)⟩
theorem lw_p47 : lw_okq (⟨"FireLeaveModel", "asks", "()V"⟩, 28) := ⟨⟨by decide +kernel, by decide +kernel⟩, List.mem_of_getElem? (i := 726) (by decide +kernel), List.mem_of_getElem? (i := 972) (by decide +kernel), List.mem_of_getElem? (i := 973) (by decide +kernel)⟩
def lw_privs_3 : List (MethodName × Nat) := [(⟨"FireLeaveModel", "ends", "(III)Z"⟩, 28), (⟨"FireLeaveModel", "readLineOf", "(I)V"⟩, 28), (⟨"FireLeaveModel", "readHouse", "()I"⟩, 28), (⟨"FireLeaveModel", "readNumber", "(II)I"⟩, 28), (⟨"FireLeaveModel", "looked", "(II)I"⟩, 28), (⟨"FireLeaveModel", "readRain", "()V"⟩, 28), (⟨"FireLeaveModel", "offersCome", "()V"⟩, 28), (⟨"FireLeaveModel", "starts", "()V"⟩, 28), (⟨"FireLeaveModel", "allOf", "(I)I"⟩, 28), (⟨"FireLeaveModel", "isHouse", "(I)Z"⟩, 28), (⟨"FireLeaveModel", "becomes", "(II)I"⟩, 28), (⟨"FireLeaveModel", "gives", "(II)V"⟩, 28), (⟨"FireLeaveModel", "settles", "()V"⟩, 28), (⟨"FireLeaveModel", "nightsGo", "(I)V"⟩, 28), (⟨"FireLeaveModel", "nightGoes", "()V"⟩, 28), (⟨"FireLeaveModel", "asks", "()V"⟩, 28)]
theorem lw_r3 : ∀ q ∈ lw_privs_3, lw_okq q := List.forall_mem_cons.mpr ⟨lw_p32, List.forall_mem_cons.mpr ⟨lw_p33, List.forall_mem_cons.mpr ⟨lw_p34, List.forall_mem_cons.mpr ⟨lw_p35, List.forall_mem_cons.mpr ⟨lw_p36, List.forall_mem_cons.mpr ⟨lw_p37, List.forall_mem_cons.mpr ⟨lw_p38, List.forall_mem_cons.mpr ⟨lw_p39, List.forall_mem_cons.mpr ⟨lw_p40, List.forall_mem_cons.mpr ⟨lw_p41, List.forall_mem_cons.mpr ⟨lw_p42, List.forall_mem_cons.mpr ⟨lw_p43, List.forall_mem_cons.mpr ⟨lw_p44, List.forall_mem_cons.mpr ⟨lw_p45, List.forall_mem_cons.mpr ⟨lw_p46, List.forall_mem_cons.mpr ⟨lw_p47, fun _ h => absurd h List.not_mem_nil⟩⟩⟩⟩⟩⟩⟩⟩⟩⟩⟩⟩⟩⟩⟩⟩
theorem lw_p48 : lw_okq (⟨"FireLeaveModel", "burns", "(II)I"⟩, 28) := ⟨⟨by decide +kernel, by decide +kernel⟩, List.mem_of_getElem? (i := 726) (by decide +kernel), List.mem_of_getElem? (i := 979) (by decide +kernel), List.mem_of_getElem? (i := 980) (by decide +kernel)⟩
theorem lw_p49 : lw_okq (⟨"FireLeaveModel", "numbers", "()I"⟩, 28) := ⟨⟨by decide +kernel, by decide +kernel⟩, List.mem_of_getElem? (i := 726) (by decide +kernel), List.mem_of_getElem? (i := 1001) (by decide +kernel), List.mem_of_getElem? (i := 1002) (by decide +kernel)⟩
theorem lw_p50 : lw_okq (⟨"FireLeaveModel", "startsBy", "(I)V"⟩, 28) := ⟨⟨by decide +kernel, by decide +kernel⟩, List.mem_of_getElem? (i := 726) (by decide +kernel), List.mem_of_getElem? (i := 1005) (by decide +kernel), List.mem_of_getElem? (i := 1006) (by decide +kernel)⟩
theorem lw_p51 : lw_okq (⟨"FireLeaveModel", "lossOf", "(I)I"⟩, 28) := ⟨⟨by decide +kernel, by decide +kernel⟩, List.mem_of_getElem? (i := 726) (by decide +kernel), List.mem_of_getElem? (i := 1009) (by decide +kernel), List.mem_of_getElem? (i := 1010) (by decide +kernel)⟩
theorem lw_p52 : lw_okq (⟨"FireLeaveModel", "startsWithCooks", "(I)V"⟩, 28) := ⟨⟨by decide +kernel, by decide +kernel⟩, List.mem_of_getElem? (i := 726) (by decide +kernel), List.mem_of_getElem? (i := 1027) (by decide +kernel), List.mem_of_getElem? (i := 1028) (by decide +kernel)⟩
theorem lw_p53 : lw_okq (⟨"FireLeaveModel", "valueOf", "(II)I"⟩, 28) := ⟨⟨by decide +kernel, by decide +kernel⟩, List.mem_of_getElem? (i := 726) (by decide +kernel), List.mem_of_getElem? (i := 1043) (by decide +kernel), List.mem_of_getElem? (i := 1044) (by decide +kernel)⟩
theorem lw_p54 : lw_okq (⟨"FireLeaveModel", "findOdds", "(II)V"⟩, 28) := ⟨⟨by decide +kernel, by decide +kernel⟩, List.mem_of_getElem? (i := 726) (by decide +kernel), List.mem_of_getElem? (i := 1066) (by decide +kernel), List.mem_of_getElem? (i := 1067) (by decide +kernel)⟩
theorem lw_p55 : lw_okq (⟨"FireLeaveModel", "isFit", "(I)Z"⟩, 28) := ⟨⟨by decide +kernel, by decide +kernel⟩, List.mem_of_getElem? (i := 726) (by decide +kernel), List.mem_of_getElem? (i := 1086) (by decide +kernel), List.mem_of_getElem? (i := 1087) (by decide +kernel)⟩
theorem lw_p56 : lw_okq (⟨"FireLeaveModel", "copies", "(II)V"⟩, 28) := ⟨⟨by decide +kernel, by decide +kernel⟩, List.mem_of_getElem? (i := 726) (by decide +kernel), List.mem_of_getElem? (i := 1104) (by decide +kernel), List.mem_of_getElem? (i := 1105) (by decide +kernel)⟩
def lw_privs_4 : List (MethodName × Nat) := [(⟨"FireLeaveModel", "burns", "(II)I"⟩, 28), (⟨"FireLeaveModel", "numbers", "()I"⟩, 28), (⟨"FireLeaveModel", "startsBy", "(I)V"⟩, 28), (⟨"FireLeaveModel", "lossOf", "(I)I"⟩, 28), (⟨"FireLeaveModel", "startsWithCooks", "(I)V"⟩, 28), (⟨"FireLeaveModel", "valueOf", "(II)I"⟩, 28), (⟨"FireLeaveModel", "findOdds", "(II)V"⟩, 28), (⟨"FireLeaveModel", "isFit", "(I)Z"⟩, 28), (⟨"FireLeaveModel", "copies", "(II)V"⟩, 28)]
theorem lw_r4 : ∀ q ∈ lw_privs_4, lw_okq q := List.forall_mem_cons.mpr ⟨lw_p48, List.forall_mem_cons.mpr ⟨lw_p49, List.forall_mem_cons.mpr ⟨lw_p50, List.forall_mem_cons.mpr ⟨lw_p51, List.forall_mem_cons.mpr ⟨lw_p52, List.forall_mem_cons.mpr ⟨lw_p53, List.forall_mem_cons.mpr ⟨lw_p54, List.forall_mem_cons.mpr ⟨lw_p55, List.forall_mem_cons.mpr ⟨lw_p56, fun _ h => absurd h List.not_mem_nil⟩⟩⟩⟩⟩⟩⟩⟩⟩
def lw_privs : List (MethodName × Nat) := lw_privs_1 ++ (lw_privs_2 ++ (lw_privs_3 ++ (lw_privs_4)))
def lw_tbl : List Cond := k2_sels lw_privs ++ tables_1
theorem lw_privs_ok : ∀ q ∈ lw_privs, lw_okq q := by
  show ∀ q ∈ lw_privs_1 ++ (lw_privs_2 ++ (lw_privs_3 ++ (lw_privs_4))), lw_okq q
  exact List.forall_mem_append.mpr ⟨lw_r1, List.forall_mem_append.mpr ⟨lw_r2, List.forall_mem_append.mpr ⟨lw_r3, lw_r4⟩⟩⟩
end
section
def RX0 : String := "FireLeave$City"
def TX0 : u_T := fun k => match k with
  | 0 => ("FireLeave$City", "kind", "[I", true)
  | 1 => ("FireLeave$City", "worth", "[I", true)
  | 2 => ("FireLeave$City", "lost", "[I", true)
  | 3 => ("FireLeave$City", "burntOf", "[I", true)
  | 4 => ("FireLeave$City", "houses", "I", false)
  | 5 => ("FireLeave$City", "at", "I", false)
  | 6 => ("FireLeave$City", "hunger", "I", false)
  | 7 => ("FireLeave$City", "temper", "I", false)
  | 8 => ("FireLeave$City", "rainBits", "I", false)
  | 9 => ("FireLeave$City", "night", "I", false)
  | 10 => ("FireLeave$City", "burnt", "I", false)
  | _ => ("FireLeave$City", "given", "I", false)
def tyX0 : Nat → FieldType := fun k => match k with
  | 0 => .array .int
  | 1 => .array .int
  | 2 => .array .int
  | 3 => .array .int
  | 4 => .int
  | 5 => .int
  | 6 => .int
  | 7 => .int
  | 8 => .int
  | 9 => .int
  | 10 => .int
  | _ => .int
abbrev wsX00 : List Cond := u_ws RX0 TX0 12
theorem nmX0 : ∀ a, a < 12 → ∀ b, b < 12 → a ≠ b → (TX0 a).2.1 ≠ (TX0 b).2.1 := by decide +kernel
theorem tyX0_ok : ∀ k, k < 12 → parseFieldDescriptor (TX0 k).2.2.1 = some (tyX0 k) := by decide +kernel
abbrev cX0_init : ByteArray := prog_2_method_1_code
def yX0_init : MethodName := ⟨RX0, "<init>", "()V"⟩
abbrev cX0_clear : ByteArray := prog_2_method_2_code
def yX0_clear : MethodName := ⟨RX0, "clear", "()V"⟩
abbrev cX0_becomeLike : ByteArray := prog_2_method_3_code
def yX0_becomeLike : MethodName := ⟨RX0, "becomeLike", "(LFireLeave$City;)V"⟩
abbrev cX0_forgetLoss : ByteArray := prog_2_method_4_code
def yX0_forgetLoss : MethodName := ⟨RX0, "forgetLoss", "()V"⟩
abbrev cX0_loss : ByteArray := prog_2_method_5_code
def yX0_loss : MethodName := ⟨RX0, "loss", "()I"⟩
abbrev cX0_has : ByteArray := prog_2_method_6_code
def yX0_has : MethodName := ⟨RX0, "has", "(I)Z"⟩
abbrev cX0_addHouse : ByteArray := prog_2_method_7_code
def yX0_addHouse : MethodName := ⟨RX0, "addHouse", "(II)V"⟩
abbrev cX0_allWorth : ByteArray := prog_2_method_8_code
def yX0_allWorth : MethodName := ⟨RX0, "allWorth", "()I"⟩
abbrev cX0_allLost : ByteArray := prog_2_method_9_code
def yX0_allLost : MethodName := ⟨RX0, "allLost", "()I"⟩
abbrev cX0_allKinds : ByteArray := prog_2_method_10_code
def yX0_allKinds : MethodName := ⟨RX0, "allKinds", "()I"⟩
abbrev cX0_kindBy : ByteArray := prog_2_method_11_code
def yX0_kindBy : MethodName := ⟨RX0, "kindBy", "(II)I"⟩
abbrev cX0_putKinds : ByteArray := prog_2_method_12_code
def yX0_putKinds : MethodName := ⟨RX0, "putKinds", "(I)V"⟩
abbrev cX0_putKind : ByteArray := prog_2_method_13_code
def yX0_putKind : MethodName := ⟨RX0, "putKind", "(II)V"⟩
abbrev cX0_putKindIn : ByteArray := prog_2_method_14_code
def yX0_putKindIn : MethodName := ⟨RX0, "putKindIn", "(II)V"⟩
abbrev cX0_giveAhead : ByteArray := prog_2_method_15_code
def yX0_giveAhead : MethodName := ⟨RX0, "giveAhead", "(II)I"⟩
abbrev cX0_passNights : ByteArray := prog_2_method_16_code
def yX0_passNights : MethodName := ⟨RX0, "passNights", "(I)V"⟩
abbrev cX0_passNight : ByteArray := prog_2_method_17_code
def yX0_passNight : MethodName := ⟨RX0, "passNight", "()V"⟩
abbrev cX0_ask : ByteArray := prog_2_method_18_code
def yX0_ask : MethodName := ⟨RX0, "ask", "()V"⟩
abbrev cX0_give : ByteArray := prog_2_method_19_code
def yX0_give : MethodName := ⟨RX0, "give", "(II)V"⟩
abbrev cX0_burn : ByteArray := prog_2_method_20_code
def yX0_burn : MethodName := ⟨RX0, "burn", "(II)I"⟩
def RX1 : String := "FireLeave$Image"
def TX1 : u_T := fun k => match k with
  | 0 => ("FireLeave$Image", "city", "LFireLeave$City;", true)
  | 1 => ("FireLeave$Image", "seen", "LFireLeave$Sightings;", true)
  | _ => ("FireLeave$Image", "there", "Z", false)
def tyX1 : Nat → FieldType := fun k => match k with
  | 0 => .object "FireLeave$City"
  | 1 => .object "FireLeave$Sightings"
  | _ => .boolean
abbrev wsX10 : List Cond := u_ws RX1 TX1 3
theorem nmX1 : ∀ a, a < 3 → ∀ b, b < 3 → a ≠ b → (TX1 a).2.1 ≠ (TX1 b).2.1 := by decide +kernel
theorem tyX1_ok : ∀ k, k < 3 → parseFieldDescriptor (TX1 k).2.2.1 = some (tyX1 k) := by decide +kernel
abbrev cX1_init : ByteArray := prog_3_method_1_code
def yX1_init : MethodName := ⟨RX1, "<init>", "()V"⟩
def RX2 : String := "FireLeave$Sheet"
def TX2 : u_T := fun k => match k with
  | 0 => ("FireLeave$Sheet", "cells", "[I", true)
  | 1 => ("FireLeave$Sheet", "there", "Z", false)
  | 2 => ("FireLeave$Sheet", "lane", "I", false)
  | _ => ("FireLeave$Sheet", "size", "I", false)
def tyX2 : Nat → FieldType := fun k => match k with
  | 0 => .array .int
  | 1 => .boolean
  | 2 => .int
  | _ => .int
abbrev wsX20 : List Cond := u_ws RX2 TX2 4
theorem nmX2 : ∀ a, a < 4 → ∀ b, b < 4 → a ≠ b → (TX2 a).2.1 ≠ (TX2 b).2.1 := by decide +kernel
theorem tyX2_ok : ∀ k, k < 4 → parseFieldDescriptor (TX2 k).2.2.1 = some (tyX2 k) := by decide +kernel
abbrev cX2_init : ByteArray := prog_4_method_1_code
def yX2_init : MethodName := ⟨RX2, "<init>", "()V"⟩
abbrev cX2_renew : ByteArray := prog_4_method_2_code
def yX2_renew : MethodName := ⟨RX2, "renew", "(II)V"⟩
abbrev cX2_tearAt : ByteArray := prog_4_method_3_code
def yX2_tearAt : MethodName := ⟨RX2, "tearAt", "(II)I"⟩
abbrev cX2_tearOfPair : ByteArray := prog_4_method_4_code
def yX2_tearOfPair : MethodName := ⟨RX2, "tearOfPair", "(II)I"⟩
abbrev cX2_cellAt : ByteArray := prog_4_method_5_code
def yX2_cellAt : MethodName := ⟨RX2, "cellAt", "(I)I"⟩
abbrev cX2_put : ByteArray := prog_4_method_6_code
def yX2_put : MethodName := ⟨RX2, "put", "(II)V"⟩
def RX3 : String := "FireLeave$Sightings"
def TX3 : u_T := fun k => match k with
  | 0 => ("FireLeave$Sightings", "where", "[I", true)
  | 1 => ("FireLeave$Sightings", "nights", "[I", true)
  | 2 => ("FireLeave$Sightings", "worth", "[I", true)
  | _ => ("FireLeave$Sightings", "size", "I", false)
def tyX3 : Nat → FieldType := fun k => match k with
  | 0 => .array .int
  | 1 => .array .int
  | 2 => .array .int
  | _ => .int
abbrev wsX30 : List Cond := u_ws RX3 TX3 4
theorem nmX3 : ∀ a, a < 4 → ∀ b, b < 4 → a ≠ b → (TX3 a).2.1 ≠ (TX3 b).2.1 := by decide +kernel
theorem tyX3_ok : ∀ k, k < 4 → parseFieldDescriptor (TX3 k).2.2.1 = some (tyX3 k) := by decide +kernel
abbrev cX3_init : ByteArray := prog_5_method_1_code
def yX3_init : MethodName := ⟨RX3, "<init>", "()V"⟩
abbrev cX3_append : ByteArray := prog_5_method_2_code
def yX3_append : MethodName := ⟨RX3, "append", "(III)Z"⟩
abbrev cX3_becomeLike : ByteArray := prog_5_method_3_code
def yX3_becomeLike : MethodName := ⟨RX3, "becomeLike", "(LFireLeave$Sightings;)V"⟩
abbrev cX3_mostNights : ByteArray := prog_5_method_4_code
def yX3_mostNights : MethodName := ⟨RX3, "mostNights", "()I"⟩
abbrev cX3_agreesWith : ByteArray := prog_5_method_5_code
def yX3_agreesWith : MethodName := ⟨RX3, "agreesWith", "([I)Z"⟩
def RX4 : String := "FireLeave$Tape"
def TX4 : u_T := fun k => match k with
  | 0 => ("FireLeave$Tape", "bytes", "[B", true)
  | 1 => ("FireLeave$Tape", "next", "I", false)
  | 2 => ("FireLeave$Tape", "length", "I", false)
  | _ => ("FireLeave$Tape", "start", "I", false)
def tyX4 : Nat → FieldType := fun k => match k with
  | 0 => .array .byte
  | 1 => .int
  | 2 => .int
  | _ => .int
abbrev wsX40 : List Cond := u_ws RX4 TX4 4
theorem nmX4 : ∀ a, a < 4 → ∀ b, b < 4 → a ≠ b → (TX4 a).2.1 ≠ (TX4 b).2.1 := by decide +kernel
theorem tyX4_ok : ∀ k, k < 4 → parseFieldDescriptor (TX4 k).2.2.1 = some (tyX4 k) := by decide +kernel
abbrev cX4_init : ByteArray := prog_6_method_1_code
def yX4_init : MethodName := ⟨RX4, "<init>", "()V"⟩
abbrev cX4_append : ByteArray := prog_6_method_2_code
def yX4_append : MethodName := ⟨RX4, "append", "(I)Z"⟩
abbrev cX4_rewind : ByteArray := prog_6_method_3_code
def yX4_rewind : MethodName := ⟨RX4, "rewind", "()V"⟩
abbrev cX4_takeToken : ByteArray := prog_6_method_4_code
def yX4_takeToken : MethodName := ⟨RX4, "takeToken", "()I"⟩
abbrev cX4_signAt : ByteArray := prog_6_method_5_code
def yX4_signAt : MethodName := ⟨RX4, "signAt", "(I)I"⟩
abbrev cX4_nameIs : ByteArray := prog_6_method_6_code
def yX4_nameIs : MethodName := ⟨RX4, "nameIs", "(Ljava/lang/String;)Z"⟩
abbrev cX4_number : ByteArray := prog_6_method_7_code
def yX4_number : MethodName := ⟨RX4, "number", "()I"⟩
def RX5 : String := "FireLeave$TextReader"
def TX5 : u_T := fun k => match k with
  | 0 => ("FireLeave$TextReader", "tape", "LFireLeave$Tape;", true)
  | 1 => ("FireLeave$TextReader", "told", "LFireLeave$City;", true)
  | 2 => ("FireLeave$TextReader", "offerHouse", "[I", true)
  | 3 => ("FireLeave$TextReader", "offerMuch", "[I", true)
  | 4 => ("FireLeave$TextReader", "offers", "I", false)
  | 5 => ("FireLeave$TextReader", "fireTold", "Z", false)
  | 6 => ("FireLeave$TextReader", "lines", "I", false)
  | 7 => ("FireLeave$TextReader", "fault", "I", false)
  | _ => ("FireLeave$TextReader", "faultPlace", "I", false)
def tyX5 : Nat → FieldType := fun k => match k with
  | 0 => .object "FireLeave$Tape"
  | 1 => .object "FireLeave$City"
  | 2 => .array .int
  | 3 => .array .int
  | 4 => .int
  | 5 => .boolean
  | 6 => .int
  | 7 => .int
  | _ => .int
abbrev wsX50 : List Cond := u_ws RX5 TX5 9
theorem nmX5 : ∀ a, a < 9 → ∀ b, b < 9 → a ≠ b → (TX5 a).2.1 ≠ (TX5 b).2.1 := by decide +kernel
theorem tyX5_ok : ∀ k, k < 9 → parseFieldDescriptor (TX5 k).2.2.1 = some (tyX5 k) := by decide +kernel
abbrev cX5_init : ByteArray := prog_7_method_1_code
def yX5_init : MethodName := ⟨RX5, "<init>", "()V"⟩
abbrev cX5_takeText : ByteArray := prog_7_method_2_code
def yX5_takeText : MethodName := ⟨RX5, "takeText", "()V"⟩
abbrev cX5_fail : ByteArray := prog_7_method_3_code
def yX5_fail : MethodName := ⟨RX5, "fail", "(II)V"⟩
abbrev cX5_refuseToken : ByteArray := prog_7_method_4_code
def yX5_refuseToken : MethodName := ⟨RX5, "refuseToken", "(I)V"⟩
abbrev cX5_takeLine : ByteArray := prog_7_method_5_code
def yX5_takeLine : MethodName := ⟨RX5, "takeLine", "(I)V"⟩
abbrev cX5_takeStop : ByteArray := prog_7_method_6_code
def yX5_takeStop : MethodName := ⟨RX5, "takeStop", "()V"⟩
abbrev cX5_lineByName : ByteArray := prog_7_method_7_code
def yX5_lineByName : MethodName := ⟨RX5, "lineByName", "()I"⟩
abbrev cX5_takeNumber : ByteArray := prog_7_method_8_code
def yX5_takeNumber : MethodName := ⟨RX5, "takeNumber", "(II)I"⟩
abbrev cX5_takeHouse : ByteArray := prog_7_method_9_code
def yX5_takeHouse : MethodName := ⟨RX5, "takeHouse", "(I)V"⟩
abbrev cX5_takeFire : ByteArray := prog_7_method_10_code
def yX5_takeFire : MethodName := ⟨RX5, "takeFire", "()V"⟩
abbrev cX5_takeRain : ByteArray := prog_7_method_11_code
def yX5_takeRain : MethodName := ⟨RX5, "takeRain", "()V"⟩
abbrev cX5_takeOffer : ByteArray := prog_7_method_12_code
def yX5_takeOffer : MethodName := ⟨RX5, "takeOffer", "()V"⟩
abbrev cX5_checkHouses : ByteArray := prog_7_method_13_code
def yX5_checkHouses : MethodName := ⟨RX5, "checkHouses", "()V"⟩
abbrev cX5_makeOffers : ByteArray := prog_7_method_14_code
def yX5_makeOffers : MethodName := ⟨RX5, "makeOffers", "()V"⟩
def RX6 : String := "FireLeave"
def TX6 : u_T := fun k => match k with
  | 0 => ("FireLeave", "reader", "LFireLeave$TextReader;", true)
  | 1 => ("FireLeave", "now", "LFireLeave$City;", true)
  | 2 => ("FireLeave", "trial", "LFireLeave$City;", true)
  | 3 => ("FireLeave", "seen", "LFireLeave$Sightings;", true)
  | 4 => ("FireLeave", "images", "[LFireLeave$Image;", true)
  | 5 => ("FireLeave", "sheets", "[LFireLeave$Sheet;", true)
  | 6 => ("FireLeave", "left", "[I", true)
  | 7 => ("FireLeave", "tally", "[I", true)
  | 8 => ("FireLeave", "latestFault", "I", false)
  | _ => ("FireLeave", "latestTear", "I", false)
def tyX6 : Nat → FieldType := fun k => match k with
  | 0 => .object "FireLeave$TextReader"
  | 1 => .object "FireLeave$City"
  | 2 => .object "FireLeave$City"
  | 3 => .object "FireLeave$Sightings"
  | 4 => .array (.object "FireLeave$Image")
  | 5 => .array (.object "FireLeave$Sheet")
  | 6 => .array .int
  | 7 => .array .int
  | 8 => .int
  | _ => .int
abbrev wsX60 : List Cond := u_ws RX6 TX6 10
theorem nmX6 : ∀ a, a < 10 → ∀ b, b < 10 → a ≠ b → (TX6 a).2.1 ≠ (TX6 b).2.1 := by decide +kernel
theorem tyX6_ok : ∀ k, k < 10 → parseFieldDescriptor (TX6 k).2.2.1 = some (tyX6 k) := by decide +kernel
abbrev cX6_init : ByteArray := prog_1_method_1_code
def yX6_init : MethodName := ⟨RX6, "<init>", "()V"⟩
abbrev cX6_feed : ByteArray := prog_1_method_2_code
def yX6_feed : MethodName := ⟨RX6, "feed", "(I)I"⟩
abbrev cX6_end : ByteArray := prog_1_method_3_code
def yX6_end : MethodName := ⟨RX6, "end", "(I)I"⟩
abbrev cX6_text : ByteArray := prog_1_method_4_code
def yX6_text : MethodName := ⟨RX6, "text", "()I"⟩
abbrev cX6_fault : ByteArray := prog_1_method_5_code
def yX6_fault : MethodName := ⟨RX6, "fault", "()I"⟩
abbrev cX6_rule : ByteArray := prog_1_method_6_code
def yX6_rule : MethodName := ⟨RX6, "rule", "(I)I"⟩
abbrev cX6_house : ByteArray := prog_1_method_7_code
def yX6_house : MethodName := ⟨RX6, "house", "(II)I"⟩
abbrev cX6_alter : ByteArray := prog_1_method_8_code
def yX6_alter : MethodName := ⟨RX6, "alter", "(III)I"⟩
abbrev cX6_set : ByteArray := prog_1_method_9_code
def yX6_set : MethodName := ⟨RX6, "set", "(II)I"⟩
abbrev cX6_rain : ByteArray := prog_1_method_10_code
def yX6_rain : MethodName := ⟨RX6, "rain", "(IZ)I"⟩
abbrev cX6_offer : ByteArray := prog_1_method_11_code
def yX6_offer : MethodName := ⟨RX6, "offer", "(II)I"⟩
abbrev cX6_go : ByteArray := prog_1_method_12_code
def yX6_go : MethodName := ⟨RX6, "go", "(I)I"⟩
abbrev cX6_runs : ByteArray := prog_1_method_13_code
def yX6_runs : MethodName := ⟨RX6, "runs", "(II)I"⟩
abbrev cX6_ahead : ByteArray := prog_1_method_14_code
def yX6_ahead : MethodName := ⟨RX6, "ahead", "(II)I"⟩
abbrev cX6_bare : ByteArray := prog_1_method_15_code
def yX6_bare : MethodName := ⟨RX6, "bare", "(I)I"⟩
abbrev cX6_best : ByteArray := prog_1_method_16_code
def yX6_best : MethodName := ⟨RX6, "best", "(II)I"⟩
abbrev cX6_change : ByteArray := prog_1_method_17_code
def yX6_change : MethodName := ⟨RX6, "change", "(II)I"⟩
abbrev cX6_cooks : ByteArray := prog_1_method_18_code
def yX6_cooks : MethodName := ⟨RX6, "cooks", "(II)I"⟩
abbrev cX6_appease : ByteArray := prog_1_method_19_code
def yX6_appease : MethodName := ⟨RX6, "appease", "(II)I"⟩
abbrev cX6_pray : ByteArray := prog_1_method_20_code
def yX6_pray : MethodName := ⟨RX6, "pray", "(I)I"⟩
abbrev cX6_value : ByteArray := prog_1_method_21_code
def yX6_value : MethodName := ⟨RX6, "value", "(II)I"⟩
abbrev cX6_share : ByteArray := prog_1_method_22_code
def yX6_share : MethodName := ⟨RX6, "share", "(III)J"⟩
abbrev cX6_luck : ByteArray := prog_1_method_23_code
def yX6_luck : MethodName := ⟨RX6, "luck", "(III)J"⟩
abbrev cX6_mean : ByteArray := prog_1_method_24_code
def yX6_mean : MethodName := ⟨RX6, "mean", "(III)J"⟩
abbrev cX6_see : ByteArray := prog_1_method_25_code
def yX6_see : MethodName := ⟨RX6, "see", "(III)I"⟩
abbrev cX6_forget : ByteArray := prog_1_method_26_code
def yX6_forget : MethodName := ⟨RX6, "forget", "(I)I"⟩
abbrev cX6_fits : ByteArray := prog_1_method_27_code
def yX6_fits : MethodName := ⟨RX6, "fits", "(I)I"⟩
abbrev cX6_look : ByteArray := prog_1_method_28_code
def yX6_look : MethodName := ⟨RX6, "look", "(I)I"⟩
abbrev cX6_drift : ByteArray := prog_1_method_29_code
def yX6_drift : MethodName := ⟨RX6, "drift", "(III)I"⟩
abbrev cX6_keep : ByteArray := prog_1_method_30_code
def yX6_keep : MethodName := ⟨RX6, "keep", "(I)I"⟩
abbrev cX6_back : ByteArray := prog_1_method_31_code
def yX6_back : MethodName := ⟨RX6, "back", "(I)I"⟩
abbrev cX6_sheet : ByteArray := prog_1_method_32_code
def yX6_sheet : MethodName := ⟨RX6, "sheet", "(III)I"⟩
abbrev cX6_lay : ByteArray := prog_1_method_33_code
def yX6_lay : MethodName := ⟨RX6, "lay", "(III)I"⟩
abbrev cX6_read : ByteArray := prog_1_method_34_code
def yX6_read : MethodName := ⟨RX6, "read", "(IIII)I"⟩
abbrev cX6_torn : ByteArray := prog_1_method_35_code
def yX6_torn : MethodName := ⟨RX6, "torn", "()I"⟩
abbrev cX6_count : ByteArray := prog_1_method_36_code
def yX6_count : MethodName := ⟨RX6, "count", "(I)I"⟩
abbrev cX6_outside : ByteArray := prog_1_method_37_code
def yX6_outside : MethodName := ⟨RX6, "outside", "(III)Z"⟩
abbrev cX6_startTrial : ByteArray := prog_1_method_38_code
def yX6_startTrial : MethodName := ⟨RX6, "startTrial", "()V"⟩
abbrev cX6_lossAsItIs : ByteArray := prog_1_method_39_code
def yX6_lossAsItIs : MethodName := ⟨RX6, "lossAsItIs", "(I)I"⟩
abbrev cX6_lossByKinds : ByteArray := prog_1_method_40_code
def yX6_lossByKinds : MethodName := ⟨RX6, "lossByKinds", "(II)I"⟩
abbrev cX6_playWith : ByteArray := prog_1_method_41_code
def yX6_playWith : MethodName := ⟨RX6, "playWith", "(III)LFireLeave$City;"⟩
abbrev cX6_oddsOfOut : ByteArray := prog_1_method_42_code
def yX6_oddsOfOut : MethodName := ⟨RX6, "oddsOfOut", "(II)J"⟩
abbrev cX6_power : ByteArray := prog_1_method_43_code
def yX6_power : MethodName := ⟨RX6, "power", "(II)J"⟩
abbrev cX6_factorial : ByteArray := prog_1_method_44_code
def yX6_factorial : MethodName := ⟨RX6, "factorial", "(I)J"⟩
abbrev cX6_partOfFraction : ByteArray := prog_1_method_45_code
def yX6_partOfFraction : MethodName := ⟨RX6, "partOfFraction", "(JJI)J"⟩
abbrev cX6_commonDivisor : ByteArray := prog_1_method_46_code
def yX6_commonDivisor : MethodName := ⟨RX6, "commonDivisor", "(JJ)J"⟩
abbrev cX6_slot : ByteArray := prog_1_method_47_code
def yX6_slot : MethodName := ⟨RX6, "slot", "(II)I"⟩
abbrev cX6_tryKinds : ByteArray := prog_1_method_48_code
def yX6_tryKinds : MethodName := ⟨RX6, "tryKinds", "(II)V"⟩
abbrev cX6_tallyFitting : ByteArray := prog_1_method_49_code
def yX6_tallyFitting : MethodName := ⟨RX6, "tallyFitting", "()I"⟩
abbrev cX6_mostInRow : ByteArray := prog_1_method_50_code
def yX6_mostInRow : MethodName := ⟨RX6, "mostInRow", "(I)I"⟩
abbrev cX6_imagesKept : ByteArray := prog_1_method_51_code
def yX6_imagesKept : MethodName := ⟨RX6, "imagesKept", "()I"⟩
def RX7 : String := "FireLeaveModel"
def TX7 : u_T := fun k => match k with
  | 0 => ("FireLeaveModel", "st", "[I", true)
  | 1 => ("FireLeaveModel", "now", "[I", true)
  | 2 => ("FireLeaveModel", "isKept", "[Z", true)
  | 3 => ("FireLeaveModel", "houses", "I", false)
  | 4 => ("FireLeaveModel", "draft", "[I", true)
  | 5 => ("FireLeaveModel", "dHouses", "I", false)
  | 6 => ("FireLeaveModel", "hasFire", "Z", false)
  | 7 => ("FireLeaveModel", "offerMany", "I", false)
  | 8 => ("FireLeaveModel", "offered", "[I", true)
  | 9 => ("FireLeaveModel", "highest", "I", false)
  | 10 => ("FireLeaveModel", "tape", "[I", true)
  | 11 => ("FireLeaveModel", "taped", "I", false)
  | 12 => ("FireLeaveModel", "pos", "I", false)
  | 13 => ("FireLeaveModel", "from", "I", false)
  | 14 => ("FireLeaveModel", "sort", "I", false)
  | 15 => ("FireLeaveModel", "value", "I", false)
  | 16 => ("FireLeaveModel", "fault", "I", false)
  | 17 => ("FireLeaveModel", "wrongAt", "I", false)
  | 18 => ("FireLeaveModel", "safeSum", "J", false)
  | 19 => ("FireLeaveModel", "lossSum", "J", false)
  | 20 => ("FireLeaveModel", "allWays", "J", false)
  | 21 => ("FireLeaveModel", "left", "[I", true)
  | 22 => ("FireLeaveModel", "ways", "[I", true)
  | 23 => ("FireLeaveModel", "lanes", "[I", true)
  | 24 => ("FireLeaveModel", "sizes", "[I", true)
  | 25 => ("FireLeaveModel", "cells", "[I", true)
  | 26 => ("FireLeaveModel", "torn", "I", false)
  | _ => ("FireLeaveModel", "had", "[I", true)
def tyX7 : Nat → FieldType := fun k => match k with
  | 0 => .array .int
  | 1 => .array .int
  | 2 => .array .boolean
  | 3 => .int
  | 4 => .array .int
  | 5 => .int
  | 6 => .boolean
  | 7 => .int
  | 8 => .array .int
  | 9 => .int
  | 10 => .array .int
  | 11 => .int
  | 12 => .int
  | 13 => .int
  | 14 => .int
  | 15 => .int
  | 16 => .int
  | 17 => .int
  | 18 => .long
  | 19 => .long
  | 20 => .long
  | 21 => .array .int
  | 22 => .array .int
  | 23 => .array .int
  | 24 => .array .int
  | 25 => .array .int
  | 26 => .int
  | _ => .array .int
abbrev wsX70 : List Cond := u_ws RX7 TX7 28
theorem nmX7 : ∀ a, a < 28 → ∀ b, b < 28 → a ≠ b → (TX7 a).2.1 ≠ (TX7 b).2.1 := by decide +kernel
theorem tyX7_ok : ∀ k, k < 28 → parseFieldDescriptor (TX7 k).2.2.1 = some (tyX7 k) := by decide +kernel
abbrev cX7_init : ByteArray := prog_9_method_1_code
def yX7_init : MethodName := ⟨RX7, "<init>", "()V"⟩
abbrev cX7_in : ByteArray := prog_9_method_3_code
def yX7_in : MethodName := ⟨RX7, "in", "(JJJ)Z"⟩
abbrev cX7_flag : ByteArray := prog_9_method_4_code
def yX7_flag : MethodName := ⟨RX7, "flag", "(Z)I"⟩
abbrev cX7_firstDraft : ByteArray := prog_9_method_5_code
def yX7_firstDraft : MethodName := ⟨RX7, "firstDraft", "()V"⟩
abbrev cX7_keepDraft : ByteArray := prog_9_method_6_code
def yX7_keepDraft : MethodName := ⟨RX7, "keepDraft", "()V"⟩
abbrev cX7_feed : ByteArray := prog_9_method_7_code
def yX7_feed : MethodName := ⟨RX7, "feed", "(I)I"⟩
abbrev cX7_end : ByteArray := prog_9_method_8_code
def yX7_end : MethodName := ⟨RX7, "end", "(I)I"⟩
abbrev cX7_needs : ByteArray := prog_9_method_9_code
def yX7_needs : MethodName := ⟨RX7, "needs", "(ZI)V"⟩
abbrev cX7_byteAt : ByteArray := prog_9_method_10_code
def yX7_byteAt : MethodName := ⟨RX7, "byteAt", "(I)I"⟩
abbrev cX7_is : ByteArray := prog_9_method_11_code
def yX7_is : MethodName := ⟨RX7, "is", "(IIII)Z"⟩
abbrev cX7_ends : ByteArray := prog_9_method_12_code
def yX7_ends : MethodName := ⟨RX7, "ends", "(III)Z"⟩
abbrev cX7_lineNow : ByteArray := prog_9_method_13_code
def yX7_lineNow : MethodName := ⟨RX7, "lineNow", "()I"⟩
abbrev cX7_next : ByteArray := prog_9_method_14_code
def yX7_next : MethodName := ⟨RX7, "next", "()V"⟩
abbrev cX7_looked : ByteArray := prog_9_method_15_code
def yX7_looked : MethodName := ⟨RX7, "looked", "(II)I"⟩
abbrev cX7_readNumber : ByteArray := prog_9_method_16_code
def yX7_readNumber : MethodName := ⟨RX7, "readNumber", "(II)I"⟩
abbrev cX7_readHouse : ByteArray := prog_9_method_17_code
def yX7_readHouse : MethodName := ⟨RX7, "readHouse", "()I"⟩
abbrev cX7_readRain : ByteArray := prog_9_method_18_code
def yX7_readRain : MethodName := ⟨RX7, "readRain", "()V"⟩
abbrev cX7_readLineOf : ByteArray := prog_9_method_19_code
def yX7_readLineOf : MethodName := ⟨RX7, "readLineOf", "(I)V"⟩
abbrev cX7_readLine : ByteArray := prog_9_method_20_code
def yX7_readLine : MethodName := ⟨RX7, "readLine", "()V"⟩
abbrev cX7_offersCome : ByteArray := prog_9_method_21_code
def yX7_offersCome : MethodName := ⟨RX7, "offersCome", "()V"⟩
abbrev cX7_text : ByteArray := prog_9_method_22_code
def yX7_text : MethodName := ⟨RX7, "text", "()I"⟩
abbrev cX7_fault : ByteArray := prog_9_method_23_code
def yX7_fault : MethodName := ⟨RX7, "fault", "()I"⟩
abbrev cX7_isHouse : ByteArray := prog_9_method_24_code
def yX7_isHouse : MethodName := ⟨RX7, "isHouse", "(I)Z"⟩
abbrev cX7_isPart : ByteArray := prog_9_method_25_code
def yX7_isPart : MethodName := ⟨RX7, "isPart", "(I)Z"⟩
abbrev cX7_starts : ByteArray := prog_9_method_26_code
def yX7_starts : MethodName := ⟨RX7, "starts", "()V"⟩
abbrev cX7_settles : ByteArray := prog_9_method_27_code
def yX7_settles : MethodName := ⟨RX7, "settles", "()V"⟩
abbrev cX7_lesser : ByteArray := prog_9_method_28_code
def yX7_lesser : MethodName := ⟨RX7, "lesser", "(II)I"⟩
abbrev cX7_burns : ByteArray := prog_9_method_29_code
def yX7_burns : MethodName := ⟨RX7, "burns", "(II)I"⟩
abbrev cX7_gives : ByteArray := prog_9_method_30_code
def yX7_gives : MethodName := ⟨RX7, "gives", "(II)V"⟩
abbrev cX7_asks : ByteArray := prog_9_method_31_code
def yX7_asks : MethodName := ⟨RX7, "asks", "()V"⟩
abbrev cX7_nightGoes : ByteArray := prog_9_method_32_code
def yX7_nightGoes : MethodName := ⟨RX7, "nightGoes", "()V"⟩
abbrev cX7_nightsGo : ByteArray := prog_9_method_33_code
def yX7_nightsGo : MethodName := ⟨RX7, "nightsGo", "(I)V"⟩
abbrev cX7_lossOf : ByteArray := prog_9_method_34_code
def yX7_lossOf : MethodName := ⟨RX7, "lossOf", "(I)I"⟩
abbrev cX7_allOf : ByteArray := prog_9_method_35_code
def yX7_allOf : MethodName := ⟨RX7, "allOf", "(I)I"⟩
abbrev cX7_rule : ByteArray := prog_9_method_36_code
def yX7_rule : MethodName := ⟨RX7, "rule", "(I)I"⟩
abbrev cX7_house : ByteArray := prog_9_method_37_code
def yX7_house : MethodName := ⟨RX7, "house", "(II)I"⟩
abbrev cX7_becomes : ByteArray := prog_9_method_38_code
def yX7_becomes : MethodName := ⟨RX7, "becomes", "(II)I"⟩
abbrev cX7_alter : ByteArray := prog_9_method_39_code
def yX7_alter : MethodName := ⟨RX7, "alter", "(III)I"⟩
abbrev cX7_set : ByteArray := prog_9_method_40_code
def yX7_set : MethodName := ⟨RX7, "set", "(II)I"⟩
abbrev cX7_rain : ByteArray := prog_9_method_41_code
def yX7_rain : MethodName := ⟨RX7, "rain", "(IZ)I"⟩
abbrev cX7_offer : ByteArray := prog_9_method_42_code
def yX7_offer : MethodName := ⟨RX7, "offer", "(II)I"⟩
abbrev cX7_go : ByteArray := prog_9_method_43_code
def yX7_go : MethodName := ⟨RX7, "go", "(I)I"⟩
abbrev cX7_runs : ByteArray := prog_9_method_44_code
def yX7_runs : MethodName := ⟨RX7, "runs", "(II)I"⟩
abbrev cX7_ahead : ByteArray := prog_9_method_45_code
def yX7_ahead : MethodName := ⟨RX7, "ahead", "(II)I"⟩
abbrev cX7_bare : ByteArray := prog_9_method_46_code
def yX7_bare : MethodName := ⟨RX7, "bare", "(I)I"⟩
abbrev cX7_numbers : ByteArray := prog_9_method_47_code
def yX7_numbers : MethodName := ⟨RX7, "numbers", "()I"⟩
abbrev cX7_startsBy : ByteArray := prog_9_method_48_code
def yX7_startsBy : MethodName := ⟨RX7, "startsBy", "(I)V"⟩
abbrev cX7_best : ByteArray := prog_9_method_49_code
def yX7_best : MethodName := ⟨RX7, "best", "(II)I"⟩
abbrev cX7_change : ByteArray := prog_9_method_50_code
def yX7_change : MethodName := ⟨RX7, "change", "(II)I"⟩
abbrev cX7_bitsOf : ByteArray := prog_9_method_51_code
def yX7_bitsOf : MethodName := ⟨RX7, "bitsOf", "(I)I"⟩
abbrev cX7_startsWithCooks : ByteArray := prog_9_method_52_code
def yX7_startsWithCooks : MethodName := ⟨RX7, "startsWithCooks", "(I)V"⟩
abbrev cX7_cooks : ByteArray := prog_9_method_53_code
def yX7_cooks : MethodName := ⟨RX7, "cooks", "(II)I"⟩
abbrev cX7_appease : ByteArray := prog_9_method_54_code
def yX7_appease : MethodName := ⟨RX7, "appease", "(II)I"⟩
abbrev cX7_pray : ByteArray := prog_9_method_55_code
def yX7_pray : MethodName := ⟨RX7, "pray", "(I)I"⟩
abbrev cX7_valueOf : ByteArray := prog_9_method_56_code
def yX7_valueOf : MethodName := ⟨RX7, "valueOf", "(II)I"⟩
abbrev cX7_value : ByteArray := prog_9_method_57_code
def yX7_value : MethodName := ⟨RX7, "value", "(II)I"⟩
abbrev cX7_common : ByteArray := prog_9_method_58_code
def yX7_common : MethodName := ⟨RX7, "common", "(JJ)J"⟩
abbrev cX7_told : ByteArray := prog_9_method_59_code
def yX7_told : MethodName := ⟨RX7, "told", "(JJI)J"⟩
abbrev cX7_orders : ByteArray := prog_9_method_60_code
def yX7_orders : MethodName := ⟨RX7, "orders", "(I)J"⟩
abbrev cX7_share : ByteArray := prog_9_method_61_code
def yX7_share : MethodName := ⟨RX7, "share", "(III)J"⟩
abbrev cX7_findOdds : ByteArray := prog_9_method_62_code
def yX7_findOdds : MethodName := ⟨RX7, "findOdds", "(II)V"⟩
abbrev cX7_luck : ByteArray := prog_9_method_63_code
def yX7_luck : MethodName := ⟨RX7, "luck", "(III)J"⟩
abbrev cX7_mean : ByteArray := prog_9_method_64_code
def yX7_mean : MethodName := ⟨RX7, "mean", "(III)J"⟩
abbrev cX7_see : ByteArray := prog_9_method_65_code
def yX7_see : MethodName := ⟨RX7, "see", "(III)I"⟩
abbrev cX7_forget : ByteArray := prog_9_method_66_code
def yX7_forget : MethodName := ⟨RX7, "forget", "(I)I"⟩
abbrev cX7_isFit : ByteArray := prog_9_method_67_code
def yX7_isFit : MethodName := ⟨RX7, "isFit", "(I)Z"⟩
abbrev cX7_fits : ByteArray := prog_9_method_68_code
def yX7_fits : MethodName := ⟨RX7, "fits", "(I)I"⟩
abbrev cX7_look : ByteArray := prog_9_method_69_code
def yX7_look : MethodName := ⟨RX7, "look", "(I)I"⟩
abbrev cX7_drift : ByteArray := prog_9_method_70_code
def yX7_drift : MethodName := ⟨RX7, "drift", "(III)I"⟩
abbrev cX7_copies : ByteArray := prog_9_method_71_code
def yX7_copies : MethodName := ⟨RX7, "copies", "(II)V"⟩
abbrev cX7_keep : ByteArray := prog_9_method_72_code
def yX7_keep : MethodName := ⟨RX7, "keep", "(I)I"⟩
abbrev cX7_back : ByteArray := prog_9_method_73_code
def yX7_back : MethodName := ⟨RX7, "back", "(I)I"⟩
abbrev cX7_isSheet : ByteArray := prog_9_method_74_code
def yX7_isSheet : MethodName := ⟨RX7, "isSheet", "(II)Z"⟩
abbrev cX7_sheet : ByteArray := prog_9_method_75_code
def yX7_sheet : MethodName := ⟨RX7, "sheet", "(III)I"⟩
abbrev cX7_lay : ByteArray := prog_9_method_76_code
def yX7_lay : MethodName := ⟨RX7, "lay", "(III)I"⟩
abbrev cX7_read : ByteArray := prog_9_method_77_code
def yX7_read : MethodName := ⟨RX7, "read", "(IIII)I"⟩
abbrev cX7_torn : ByteArray := prog_9_method_78_code
def yX7_torn : MethodName := ⟨RX7, "torn", "()I"⟩
abbrev cX7_count : ByteArray := prog_9_method_79_code
def yX7_count : MethodName := ⟨RX7, "count", "(I)I"⟩
def RJx145de : String := "java/io/Serializable"
def RJx9f9b0 : String := "java/lang/CharSequence"
def RJxb160c : String := "java/lang/Comparable"
def RJ6 : String := "java/lang/Integer"
abbrev cJ6_bitCount_0f7a4 : ByteArray := prog_10_method_49_code
def yJ6_bitCount_0f7a4 : MethodName := ⟨RJ6, "bitCount", "(I)I"⟩
def RJ9 : String := "java/lang/Math"
abbrev cJ9_abs_067f4 : ByteArray := prog_11_method_61_code
def yJ9_abs_067f4 : MethodName := ⟨RJ9, "abs", "(J)J"⟩
abbrev cJ9_max_7cf53 : ByteArray := prog_11_method_65_code
def yJ9_max_7cf53 : MethodName := ⟨RJ9, "max", "(II)I"⟩
abbrev cJ9_min_7cf53 : ByteArray := prog_11_method_69_code
def yJ9_min_7cf53 : MethodName := ⟨RJ9, "min", "(II)I"⟩
def RJ0 : String := "java/lang/String"
abbrev cJ0_length_8abf5 : ByteArray := prog_12_method_54_code
def yJ0_length_8abf5 : MethodName := ⟨RJ0, "length", "()I"⟩
abbrev cJ0_charAt_5068e : ByteArray := prog_12_method_56_code
def yJ0_charAt_5068e : MethodName := ⟨RJ0, "charAt", "(I)C"⟩
abbrev cJ0_coder_7d493 : ByteArray := prog_12_method_152_code
def yJ0_coder_7d493 : MethodName := ⟨RJ0, "coder", "()B"⟩
abbrev cJ0_isLatin1_aae02 : ByteArray := prog_12_method_154_code
def yJ0_isLatin1_aae02 : MethodName := ⟨RJ0, "isLatin1", "()Z"⟩
abbrev cJ0_checkIndex_df160 : ByteArray := prog_12_method_155_code
def yJ0_checkIndex_df160 : MethodName := ⟨RJ0, "checkIndex", "(II)V"⟩
def RJ1 : String := "java/lang/StringLatin1"
abbrev cJ1_charAt_3b067 : ByteArray := prog_13_method_2_code
def yJ1_charAt_3b067 : MethodName := ⟨RJ1, "charAt", "([BI)C"⟩
def RJ2 : String := "java/lang/StringUTF16"
abbrev cJ2_getChar_3b067 : ByteArray := prog_14_method_5_code
def yJ2_getChar_3b067 : MethodName := ⟨RJ2, "getChar", "([BI)C"⟩
abbrev cJ2_length_9d52b : ByteArray := prog_14_method_6_code
def yJ2_length_9d52b : MethodName := ⟨RJ2, "length", "([B)I"⟩
abbrev cJ2_charAt_3b067 : ByteArray := prog_14_method_83_code
def yJ2_charAt_3b067 : MethodName := ⟨RJ2, "charAt", "([BI)C"⟩
abbrev cJ2_checkIndex_2214a : ByteArray := prog_14_method_91_code
def yJ2_checkIndex_2214a : MethodName := ⟨RJ2, "checkIndex", "(I[B)V"⟩
def RJ10 : String := "java/lang/System"
def RJxfd54e : String := "java/lang/constant/Constable"
def RJx3cf43 : String := "java/lang/constant/ConstantDesc"
def RJ7 : String := "java/util/Arrays"
abbrev cJ7_fill_53178 : ByteArray := prog_16_method_103_code
def yJ7_fill_53178 : MethodName := ⟨RJ7, "fill", "([II)V"⟩
def RJ3 : String := "jdk/internal/util/Preconditions"
abbrev cJ3_checkIndex_8e157 : ByteArray := prog_17_method_11_code
def yJ3_checkIndex_8e157 : MethodName := ⟨RJ3, "checkIndex", "(IILjava/util/function/BiFunction;)I"⟩
def RL : String := "FireLeaveLaw"
abbrev cL_law : ByteArray := code
def yL_law : MethodName := ⟨RL, "law", "([I)Z"⟩
abbrev vwCl : List vw_C := [(RX0, TX0, 12), (RX1, TX1, 3), (RX2, TX2, 4), (RX3, TX3, 4), (RX4, TX4, 4), (RX5, TX5, 9), (RX6, TX6, 10), (RX7, TX7, 28)]
end
section

/-! THE ABSTRACT HEAP: cells by their places; a method's walk in words of it -/
def gw : List Cond := lw_tbl.filter goodWord
theorem gw_in {w : Cond} (h : w ∈ lw_tbl) (g : goodWord w = true) : w ∈ gw := List.mem_filter.mpr ⟨h, g⟩
theorem gw_good {w : Cond} (h : w ∈ gw) : GoodIn gw [w] := fun v hv => by
  rw [List.mem_singleton.mp hv]
  exact ⟨h, good_of_word (List.mem_filter.mp h).2⟩
theorem gw_all : GoodIn gw gw := fun w h => ⟨h, good_of_word (List.mem_filter.mp h).2⟩
abbrev ab_C : Type := (Nat × Nat × (Nat → Int32)) ⊕ ((Nat × List (Option Nat)) ⊕ (Nat × List Value))
abbrev ab_H : Type := List ab_C
abbrev aI (t n : Nat) (f : Nat → Int32) : ab_C := .inl (t, n, f)
abbrev aR (t : Nat) (l : List (Option Nat)) : ab_C := .inr (.inl (t, l))
abbrev aO (c : Nat) (fs : List Value) : ab_C := .inr (.inr (c, fs))
/-- an abstract value's own: a place becomes an address, a text's number its address -/
def xv (ad sk : Nat → Nat) : Value → Value
  | .ref k => .ref (ad k)
  | .retAddr i => .ref (sk i)
  | .int x => .int x
  | .long x => .long x
  | .float x => .float x
  | .double x => .double x
  | .null => .null
def xc (ad sk : Nat → Nat) (ac : Nat → ClassId) : ab_C → va_E
  | .inl (t, n, f) => .inl (ac t, n, .inl f)
  | .inr (.inl (t, l)) => .inl (ac t, l.length, .inr (.inr (.inr (.inr (fun j => (l.getD j none).map ad)))))
  | .inr (.inr (c, fs)) => .inr (c, fs.map (xv ad sk))
def xw (ad sk : Nat → Nat) (ac : Nat → ClassId) (h : ab_H) : va_W := h.mapIdx (fun i c => (ad i, xc ad sk ac c))
theorem xw_at {ad sk : Nat → Nat} {ac : Nat → ClassId} {h : ab_H} {k : Nat} : (xw ad sk ac h)[k]? = (h[k]?).map (fun c => (ad k, xc ad sk ac c)) := by
  simp [xw, List.getElem?_mapIdx]
theorem xw_of {ad sk : Nat → Nat} {ac : Nat → ClassId} {h : ab_H} {k : Nat} {c : ab_C} (hk : h[k]? = some c) : (xw ad sk ac h)[k]? = some (ad k, xc ad sk ac c) := by
  rw [xw_at, hk]; rfl
theorem xw_set {ad sk : Nat → Nat} {ac : Nat → ClassId} {h : ab_H} {k : Nat} {c : ab_C} : (xw ad sk ac h).set k (ad k, xc ad sk ac c) = xw ad sk ac (h.set k c) := by
  apply List.ext_getElem?
  intro i
  rw [xw_at, List.getElem?_set, List.getElem?_set, xw_at]
  have hl : (xw ad sk ac h).length = h.length := by simp [xw]
  rw [hl]
  by_cases hk : k = i
  · subst hk
    simp only [if_true]
    by_cases h2 : k < h.length <;> simp [h2]
  · simp [hk]
theorem xw_push {ad sk : Nat → Nat} {ac : Nat → ClassId} {h : ab_H} {c : ab_C} : xw ad sk ac (h ++ [c]) = xw ad sk ac h ++ [(ad h.length, xc ad sk ac c)] := by
  simp [xw, List.mapIdx_append]
def ab_ty (ac : Nat → ClassId) : List (ClassId × FieldType) := [(ac 0, .int), (ac 1, .byte), (ac 2, .boolean), (ac 3, .object RX1), (ac 4, .object RX2)]
def ab_isN : Cond → Bool
  | .methodLinkNest .. => true
  | _ => false
def ab_str : List (Nat × String) := [(97, "polite"), (103, "rude"), (105, "deaf"), (107, "cook"), (109, "fire"), (111, "rain"), (113, "offer")]
def ab_len : List Nat := [6, 4, 4, 4, 4, 4, 5]
def ab_byt : List (List Int32) := [[112, 111, 108, 105, 116, 101], [114, 117, 100, 101], [100, 101, 97, 102], [99, 111, 111, 107], [102, 105, 114, 101], [114, 97, 105, 110], [111, 102, 102, 101, 114]]
def ab_fac (j : Nat) : Int32 := ([1, 1, 2, 6, 24, 120] : List Int32).getD j 0
/-- what nobody writes: links of the nest, texts, statics, array classes -/
def SX (sk : Nat → Nat) (A : Nat → Prop) (U : State) (H : Heap) : Prop :=
  (∀ w ∈ lw_tbl, ab_isN w = true → va_Nw w U) ∧
  (∀ i, i < 7 → vk_R RX5 (ab_str.getD i (0, "")).1 (ab_str.getD i (0, "")).2 (sk i) U) ∧
  (∃ adV : Nat → Nat, vk_S 7 ab_len ab_byt sk adV A U H) ∧
  va_Z "java/lang/String" "COMPACT_STRINGS" "Z" (.int 1) A U H ∧
  (∃ t : Nat, va_Z RX6 "FACTORIAL" "[I" (.ref t) A U H ∧ va_T .int t 6 (fun j => .int (ab_fac j)) A U H) ∧
  va_AO RX1 U ∧ va_AO RX2 U
theorem SX.same {sk : Nat → Nat} {A : Nat → Prop} {u U : State} {H : Heap} (hv : U.vm = u.vm) (h : SX sk A u H) : SX sk A U H := by
  have hal : u.vm.Alike U.vm := by rw [hv]; exact Vm.Alike.refl _
  obtain ⟨h1, h2, ⟨adV, h3⟩, h4, ⟨t, h5, h6⟩, h7, h8⟩ := h
  refine ⟨fun w hw hn => ?_, fun i hi => vk_R.same hv (h2 i hi), ⟨adV, vk_S.moved hal h3⟩, va_Z.moved hal h4, ⟨t, va_Z.moved hal h5, va_T.moved hal h6⟩, va_AO.moved hal h7, va_AO.moved hal h8⟩
  cases w <;> first | (simp [ab_isN] at hn; done) | exact va_Nw.same rfl hv.symm (h1 _ hw hn)
theorem SX.move {sk : Nat → Nat} {A B : Nat → Prop} {s U : State} {H : Heap} {locs : List Loc} (h : SX sk A s s.heap) (hS : va_S A s.heap H locs) (hW : s.WarmedH U.vm) (hU : U.heap = H) (hB : ∀ q, B q → A q) : SX sk B U U.heap := by
  have hal := hW.alike
  have hk : ∀ a : Nat, a < s.heap.size → ¬ A a → U.heap[a]? = s.heap[a]? := fun a h1 h2 => by rw [hU]; exact hS.2.1 a h1 h2
  obtain ⟨h1, h2, ⟨adV, h3⟩, h4, ⟨t, h5, h6⟩, h7, h8⟩ := h
  refine ⟨fun w hw hn => ?_, fun i hi => vk_R.warm hW (h2 i hi), ⟨adV, (vk_S.moved hal (h3.kept hk)).narrow hB⟩, (va_Z.moved hal (h4.kept hk)).narrow hB, ⟨t, (va_Z.moved hal (h5.kept hk)).narrow hB, (va_T.moved hal (h6.kept hk)).narrow hB⟩, va_AO.moved hal h7, va_AO.moved hal h8⟩
  cases w <;> first | (simp [ab_isN] at hn; done) | exact va_Nw.warmM hW (h1 _ hw hn)
def Cx (own nm : String) (cc : ByteArray) (nL : Nat) (ret : Option FieldType) (p : Program) (s : State) (m : MethodId) (args : Array Value) (meth : Method) (c : Code) : Prop :=
  p.tables.exec = Jvm.exec ∧ c.code = cc ∧ meth.sig.returnType = ret ∧ c.maxLocals = nL ∧ s.vm.findClass own = some m.cls ∧ (∀ w ∈ gw, w.before args s = true) ∧ meth.locks = false ∧ meth.name = nm
def Nw (dC : Nat → ClassId) (dI : Nat → Nat → Nat) (ac : Nat → ClassId) (sk : Nat → Nat) (A : Nat → Prop) (ad0 : Nat → Nat) (n0 : Nat) (s : State) (nL : Nat) (L : List (Nat × Value)) (h : ab_H) (ad : Nat → Nat) (H : Heap) (locs : List Loc) (ls : Array Slot) : Prop :=
  (n0 ≤ h.length ∧ (∀ j, j < n0 → ad j = ad0 j) ∧ (h.length = n0 → ad = ad0)) ∧ va_P (dC, dI) vwCl (xw ad sk ac h) H ∧ va_D A (xw ad sk ac h) ∧ va_S A s.heap H locs ∧ lv_has ls nL (L.map (fun q => (q.1, xv ad sk q.2)))
/-- which instruction leaves with which answer -/
def ab_ret (ret : Option FieldType) (v : Option Value) (ins : Instr) : Prop :=
  (ret = none ∧ v = none ∧ ins = .return_) ∨ (∃ ty x, ret = some ty ∧ v = some (.int x) ∧ ins = .ireturn ∧ narrow ty (.int x) = .int x) ∨ (ret = some .long ∧ ∃ x, v = some (.long x) ∧ ins = .lreturn) ∨ (∃ t r, ret = some (.object t) ∧ v = some (.ref r) ∧ ins = .areturn)
def Ev (own nm : String) (cc : ByteArray) (nL : Nat) (ret : Option FieldType) (R : Room) (Q : Option Value → ab_H → Prop) (mc ms : Nat) (p : Program) (l : Launch) (e : Env) (s : State) (m : MethodId) (args : Array Value) (below : List Frame) (meth : Method) (c : Code) (dC : Nat → ClassId) (dI : Nat → Nat → Nat) (ac : Nat → ClassId) (sk : Nat → Nat) (A : Nat → Prop) (ad0 : Nat → Nat) (n0 : Nat) (Qs : State → Prop) : Prop :=
  Cx own nm cc nL ret p s m args meth c ∧ (∀ q, s.heap.size ≤ q → A q) ∧ SX sk A s s.heap ∧ va_K (dC, dI) vwCl (ab_ty ac) s ∧
  ∀ (ad : Nat → Nat) (H : Heap) (locs : List Loc) (ls : Array Slot) (v : Option Value) (ins : Instr) (h : ab_H) (pcr : Nat), Q v h → ab_ret ret v ins → decode cc pcr = .ok (ins, 1) → Nw dC dI ac sk A ad0 n0 s nL [] h ad H locs ls → W p l e R s m args below meth c H locs mc ms Qs (F0 m pcr ls (v.toList.map (xv ad sk)))
def Vd (own nm : String) (cc : ByteArray) (nL : Nat) (ret : Option FieldType) (R : Room) (Q : Option Value → ab_H → Prop) (mc ms k n pc : Nat) (L : List (Nat × Value)) (st : List Value) (h : ab_H) : Prop :=
  ∀ (p : Program) (l : Launch) (e : Env) (s : State) (m : MethodId) (args : Array Value) (below : List Frame) (meth : Method) (c : Code) (dC : Nat → ClassId) (dI : Nat → Nat → Nat) (ac : Nat → ClassId) (sk : Nat → Nat) (A : Nat → Prop) (ad0 : Nat → Nat) (n0 : Nat) (Qs : State → Prop),
    Ev own nm cc nL ret R Q mc ms p l e s m args below meth c dC dI ac sk A ad0 n0 Qs → ∀ (ad : Nat → Nat) (H : Heap) (locs : List Loc) (ls : Array Slot), Nw dC dI ac sk A ad0 n0 s nL L h ad H locs ls → W p l e R s m args below meth c H locs k n Qs (F0 m pc ls (st.map (xv ad sk)))
theorem xv_cat (ad sk : Nat → Nat) (v : Value) : (xv ad sk v).category = v.category := by cases v <;> rfl
theorem xv_cats (ad sk : Nat → Nat) (st : List Value) : ((st.map (xv ad sk)).map fun v => v.category) = st.map fun v => v.category := by
  rw [List.map_map]
  exact List.map_congr_left (fun v _ => xv_cat ad sk v)
/-- a local's value -/
def ab_lk (L : List (Nat × Value)) (i : Nat) : Option Value := (L.find? (fun q => q.1 == i)).map (fun q => q.2)
theorem ab_lk_in {L : List (Nat × Value)} {i : Nat} {v : Value} (h : ab_lk L i = some v) : (i, v) ∈ L := by
  unfold ab_lk at h
  cases hf : L.find? (fun q => q.1 == i) with
  | none => rw [hf] at h; cases h
  | some q =>
    rw [hf] at h
    have h1 := List.mem_of_find?_eq_some hf
    have h2 := List.find?_some hf
    have e1 : q.1 = i := by simpa using h2
    have e2 : q.2 = v := Option.some.inj h
    rw [← e1, ← e2]
    exact h1
theorem ab_lk_at {L : List (Nat × Value)} {i : Nat} {v : Value} {ad sk : Nat → Nat} {ls : Array Slot} {nL : Nat} (h : ab_lk L i = some v) (hl : lv_has ls nL (L.map (fun q => (q.1, xv ad sk q.2)))) : ls[i]? = some (.val (xv ad sk v)) :=
  hl.2.2 (i, xv ad sk v) (List.mem_map.mpr ⟨(i, v), ab_lk_in h, rfl⟩)
/-- storing a value of one word, of two -/
def ab_s1 (L : List (Nat × Value)) (i : Nat) (v : Value) : List (Nat × Value) := (i, v) :: L.filter (fun q => !(q.1 == i) && !(q.1 + 1 == i && q.2.category == 2))
def ab_s2 (L : List (Nat × Value)) (i : Nat) (v : Value) : List (Nat × Value) := (i, v) :: L.filter (fun q => !(q.1 == i) && (!(q.1 == i + 1) && !(q.1 + 1 == i && q.2.category == 2)))
theorem ab_s1_map {L : List (Nat × Value)} {i : Nat} {v : Value} {ad sk : Nat → Nat} : (i, xv ad sk v) :: (L.map (fun q => (q.1, xv ad sk q.2))).filter (fun q => !(q.1 == i) && !(q.1 + 1 == i && q.2.category == 2)) = (ab_s1 L i v).map (fun q => (q.1, xv ad sk q.2)) := by
  simp only [ab_s1, List.map_cons, List.filter_map]
  congr 2
  apply List.filter_congr
  intro q _
  simp [xv_cat]
theorem ab_s2_map {L : List (Nat × Value)} {i : Nat} {v : Value} {ad sk : Nat → Nat} : (i, xv ad sk v) :: (L.map (fun q => (q.1, xv ad sk q.2))).filter (fun q => !(q.1 == i) && (!(q.1 == i + 1) && !(q.1 + 1 == i && q.2.category == 2))) = (ab_s2 L i v).map (fun q => (q.1, xv ad sk q.2)) := by
  simp only [ab_s2, List.map_cons, List.filter_map]
  congr 2
  apply List.filter_congr
  intro q _
  simp [xv_cat]
theorem Nw.loc {dC : Nat → ClassId} {dI : Nat → Nat → Nat} {ac : Nat → ClassId} {sk : Nat → Nat} {A : Nat → Prop} {ad0 : Nat → Nat} {n0 : Nat} {s : State} {nL : Nat} {L L' : List (Nat × Value)} {h : ab_H} {ad : Nat → Nat} {H : Heap} {locs : List Loc} {ls : Array Slot} (N : Nw dC dI ac sk A ad0 n0 s nL L h ad H locs ls) (hs : ∀ q ∈ L', q ∈ L) : Nw dC dI ac sk A ad0 n0 s nL L' h ad H locs ls := by
  obtain ⟨h1, h2, h3, h4, h5, h6, h7⟩ := N
  refine ⟨h1, h2, h3, h4, h5, h6, fun q hq => ?_⟩
  obtain ⟨r, hr, e⟩ := List.mem_map.mp hq
  exact h7 q (List.mem_map.mpr ⟨r, hs r hr, e⟩)

section VROWS
variable {own nm : String} {cc : ByteArray} {nL : Nat} {ret : Option FieldType} {R : Room} {Q : Option Value → ab_H → Prop} {mc ms k n pc : Nat} {L : List (Nat × Value)} {st : List Value} {h : ab_H}
theorem v_iconst {z : Int} {v : Int32} (hd : decode cc pc = .ok (.iconst z, 1)) (hv : Int32.ofInt z = v) (kk : Vd own nm cc nL ret R Q mc ms k n (pc + 1) L (.int v :: st) h) : Vd own nm cc nL ret R Q mc ms k n pc L (st) h := by
  intro p l e s m args below meth c dC dI ac sk A ad0 n0 Qs E ad H locs ls N
  exact lv_iconst E.1.1 E.1.2.1 hd hv (kk p l e s m args below meth c dC dI ac sk A ad0 n0 Qs E ad H locs ls N)
theorem v_bipush {z : Int} {v : Int32} (hd : decode cc pc = .ok (.bipush z, 2)) (hv : (Int8.ofInt z).toInt32 = v) (kk : Vd own nm cc nL ret R Q mc ms k n (pc + 2) L (.int v :: st) h) : Vd own nm cc nL ret R Q mc ms k n pc L (st) h := by
  intro p l e s m args below meth c dC dI ac sk A ad0 n0 Qs E ad H locs ls N
  exact lv_bipush E.1.1 E.1.2.1 hd hv (kk p l e s m args below meth c dC dI ac sk A ad0 n0 Qs E ad H locs ls N)
theorem v_sipush {z : Int} {v : Int32} (hd : decode cc pc = .ok (.sipush z, 3)) (hv : (Int16.ofInt z).toInt32 = v) (kk : Vd own nm cc nL ret R Q mc ms k n (pc + 3) L (.int v :: st) h) : Vd own nm cc nL ret R Q mc ms k n pc L (st) h := by
  intro p l e s m args below meth c dC dI ac sk A ad0 n0 Qs E ad H locs ls N
  exact lv_sipush E.1.1 E.1.2.1 hd hv (kk p l e s m args below meth c dC dI ac sk A ad0 n0 Qs E ad H locs ls N)
theorem v_lconst {z : Fin 2} {v : Int64} (hd : decode cc pc = .ok (.lconst z, 1)) (hv : Int64.ofNat (z : Nat) = v) (kk : Vd own nm cc nL ret R Q mc ms k n (pc + 1) L (.long v :: st) h) : Vd own nm cc nL ret R Q mc ms k n pc L (st) h := by
  intro p l e s m args below meth c dC dI ac sk A ad0 n0 Qs E ad H locs ls N
  exact lv_lconst E.1.1 E.1.2.1 hd hv (kk p l e s m args below meth c dC dI ac sk A ad0 n0 Qs E ad H locs ls N)
theorem v_iload_n {j : Fin 4} {x : Int32} (hd : decode cc pc = .ok (.iload_n j, 1)) (hl : ab_lk L j = some (.int x)) (kk : Vd own nm cc nL ret R Q mc ms k n (pc + 1) L (.int x :: st) h) : Vd own nm cc nL ret R Q mc ms k n pc L (st) h := by
  intro p l e s m args below meth c dC dI ac sk A ad0 n0 Qs E ad H locs ls N
  exact lv_iload_n E.1.1 E.1.2.1 hd rfl (ab_lk_at hl N.2.2.2.2) (kk p l e s m args below meth c dC dI ac sk A ad0 n0 Qs E ad H locs ls N)
theorem v_iload {i : Nat} {x : Int32} (hd : decode cc pc = .ok (.iload i, 2)) (hl : ab_lk L i = some (.int x)) (kk : Vd own nm cc nL ret R Q mc ms k n (pc + 2) L (.int x :: st) h) : Vd own nm cc nL ret R Q mc ms k n pc L (st) h := by
  intro p l e s m args below meth c dC dI ac sk A ad0 n0 Qs E ad H locs ls N
  exact lv_iload E.1.1 E.1.2.1 hd (ab_lk_at hl N.2.2.2.2) (kk p l e s m args below meth c dC dI ac sk A ad0 n0 Qs E ad H locs ls N)
theorem v_lload_n {j : Fin 4} {x : Int64} (hd : decode cc pc = .ok (.lload_n j, 1)) (hl : ab_lk L j = some (.long x)) (kk : Vd own nm cc nL ret R Q mc ms k n (pc + 1) L (.long x :: st) h) : Vd own nm cc nL ret R Q mc ms k n pc L (st) h := by
  intro p l e s m args below meth c dC dI ac sk A ad0 n0 Qs E ad H locs ls N
  exact lv_lload_n E.1.1 E.1.2.1 hd rfl (ab_lk_at hl N.2.2.2.2) (kk p l e s m args below meth c dC dI ac sk A ad0 n0 Qs E ad H locs ls N)
theorem v_lload {i : Nat} {x : Int64} (hd : decode cc pc = .ok (.lload i, 2)) (hl : ab_lk L i = some (.long x)) (kk : Vd own nm cc nL ret R Q mc ms k n (pc + 2) L (.long x :: st) h) : Vd own nm cc nL ret R Q mc ms k n pc L (st) h := by
  intro p l e s m args below meth c dC dI ac sk A ad0 n0 Qs E ad H locs ls N
  exact lv_lload E.1.1 E.1.2.1 hd (ab_lk_at hl N.2.2.2.2) (kk p l e s m args below meth c dC dI ac sk A ad0 n0 Qs E ad H locs ls N)
theorem v_aload_n {j : Fin 4} {x : Nat} (hd : decode cc pc = .ok (.aload_n j, 1)) (hl : ab_lk L j = some (.ref x)) (kk : Vd own nm cc nL ret R Q mc ms k n (pc + 1) L (.ref x :: st) h) : Vd own nm cc nL ret R Q mc ms k n pc L (st) h := by
  intro p l e s m args below meth c dC dI ac sk A ad0 n0 Qs E ad H locs ls N
  exact lv_aload_n E.1.1 E.1.2.1 hd rfl (ab_lk_at hl N.2.2.2.2) (kk p l e s m args below meth c dC dI ac sk A ad0 n0 Qs E ad H locs ls N)
theorem v_aload {i : Nat} {x : Nat} (hd : decode cc pc = .ok (.aload i, 2)) (hl : ab_lk L i = some (.ref x)) (kk : Vd own nm cc nL ret R Q mc ms k n (pc + 2) L (.ref x :: st) h) : Vd own nm cc nL ret R Q mc ms k n pc L (st) h := by
  intro p l e s m args below meth c dC dI ac sk A ad0 n0 Qs E ad H locs ls N
  exact lv_aload E.1.1 E.1.2.1 hd (ab_lk_at hl N.2.2.2.2) (kk p l e s m args below meth c dC dI ac sk A ad0 n0 Qs E ad H locs ls N)
theorem v_sload_n {j : Fin 4} {x : Nat} (hd : decode cc pc = .ok (.aload_n j, 1)) (hl : ab_lk L j = some (.retAddr x)) (kk : Vd own nm cc nL ret R Q mc ms k n (pc + 1) L (.retAddr x :: st) h) : Vd own nm cc nL ret R Q mc ms k n pc L (st) h := by
  intro p l e s m args below meth c dC dI ac sk A ad0 n0 Qs E ad H locs ls N
  exact lv_aload_n E.1.1 E.1.2.1 hd rfl (ab_lk_at hl N.2.2.2.2) (kk p l e s m args below meth c dC dI ac sk A ad0 n0 Qs E ad H locs ls N)
theorem v_istore_n {j : Fin 4} {i : Nat} {x : Int32} {L2 : List (Nat × Value)} (hd : decode cc pc = .ok (.istore_n j, 1)) (hi : (j : Nat) = i) (hn : i < nL) (hl : ab_s1 L i (.int x) = L2) (kk : Vd own nm cc nL ret R Q mc ms k n (pc + 1) L2 st h) : Vd own nm cc nL ret R Q mc ms k n pc L (.int x :: st) h := by
  intro p l e s m args below meth c dC dI ac sk A ad0 n0 Qs E ad H locs ls N
  exact lv_istore_n E.1.1 E.1.2.1 hd hi N.2.2.2.2 hn (ab_s1_map (v := .int x) (ad := ad) (sk := sk)) (fun ls2 hl2 => kk p l e s m args below meth c dC dI ac sk A ad0 n0 Qs E ad H locs ls2 ⟨N.1, N.2.1, N.2.2.1, N.2.2.2.1, hl ▸ hl2⟩)
theorem v_istore {i : Nat} {x : Int32} {L2 : List (Nat × Value)} (hd : decode cc pc = .ok (.istore i, 2)) (hn : i < nL) (hl : ab_s1 L i (.int x) = L2) (kk : Vd own nm cc nL ret R Q mc ms k n (pc + 2) L2 st h) : Vd own nm cc nL ret R Q mc ms k n pc L (.int x :: st) h := by
  intro p l e s m args below meth c dC dI ac sk A ad0 n0 Qs E ad H locs ls N
  exact lv_istore E.1.1 E.1.2.1 hd N.2.2.2.2 hn (ab_s1_map (v := .int x) (ad := ad) (sk := sk)) (fun ls2 hl2 => kk p l e s m args below meth c dC dI ac sk A ad0 n0 Qs E ad H locs ls2 ⟨N.1, N.2.1, N.2.2.1, N.2.2.2.1, hl ▸ hl2⟩)
theorem v_lstore_n {j : Fin 4} {i : Nat} {x : Int64} {L2 : List (Nat × Value)} (hd : decode cc pc = .ok (.lstore_n j, 1)) (hi : (j : Nat) = i) (hn : i + 1 < nL) (hl : ab_s2 L i (.long x) = L2) (kk : Vd own nm cc nL ret R Q mc ms k n (pc + 1) L2 st h) : Vd own nm cc nL ret R Q mc ms k n pc L (.long x :: st) h := by
  intro p l e s m args below meth c dC dI ac sk A ad0 n0 Qs E ad H locs ls N
  exact lv_lstore_n E.1.1 E.1.2.1 hd hi N.2.2.2.2 hn (ab_s2_map (v := .long x) (ad := ad) (sk := sk)) (fun ls2 hl2 => kk p l e s m args below meth c dC dI ac sk A ad0 n0 Qs E ad H locs ls2 ⟨N.1, N.2.1, N.2.2.1, N.2.2.2.1, hl ▸ hl2⟩)
theorem v_lstore {i : Nat} {x : Int64} {L2 : List (Nat × Value)} (hd : decode cc pc = .ok (.lstore i, 2)) (hn : i + 1 < nL) (hl : ab_s2 L i (.long x) = L2) (kk : Vd own nm cc nL ret R Q mc ms k n (pc + 2) L2 st h) : Vd own nm cc nL ret R Q mc ms k n pc L (.long x :: st) h := by
  intro p l e s m args below meth c dC dI ac sk A ad0 n0 Qs E ad H locs ls N
  exact lv_lstore E.1.1 E.1.2.1 hd N.2.2.2.2 hn (ab_s2_map (v := .long x) (ad := ad) (sk := sk)) (fun ls2 hl2 => kk p l e s m args below meth c dC dI ac sk A ad0 n0 Qs E ad H locs ls2 ⟨N.1, N.2.1, N.2.2.1, N.2.2.2.1, hl ▸ hl2⟩)
theorem v_astore_n {j : Fin 4} {i : Nat} {x : Nat} {L2 : List (Nat × Value)} (hd : decode cc pc = .ok (.astore_n j, 1)) (hi : (j : Nat) = i) (hn : i < nL) (hl : ab_s1 L i (.ref x) = L2) (kk : Vd own nm cc nL ret R Q mc ms k n (pc + 1) L2 st h) : Vd own nm cc nL ret R Q mc ms k n pc L (.ref x :: st) h := by
  intro p l e s m args below meth c dC dI ac sk A ad0 n0 Qs E ad H locs ls N
  exact lv_astore_n E.1.1 E.1.2.1 hd hi N.2.2.2.2 hn (ab_s1_map (v := .ref x) (ad := ad) (sk := sk)) (fun ls2 hl2 => kk p l e s m args below meth c dC dI ac sk A ad0 n0 Qs E ad H locs ls2 ⟨N.1, N.2.1, N.2.2.1, N.2.2.2.1, hl ▸ hl2⟩)
theorem v_astore {i : Nat} {x : Nat} {L2 : List (Nat × Value)} (hd : decode cc pc = .ok (.astore i, 2)) (hn : i < nL) (hl : ab_s1 L i (.ref x) = L2) (kk : Vd own nm cc nL ret R Q mc ms k n (pc + 2) L2 st h) : Vd own nm cc nL ret R Q mc ms k n pc L (.ref x :: st) h := by
  intro p l e s m args below meth c dC dI ac sk A ad0 n0 Qs E ad H locs ls N
  exact lv_astore E.1.1 E.1.2.1 hd N.2.2.2.2 hn (ab_s1_map (v := .ref x) (ad := ad) (sk := sk)) (fun ls2 hl2 => kk p l e s m args below meth c dC dI ac sk A ad0 n0 Qs E ad H locs ls2 ⟨N.1, N.2.1, N.2.2.1, N.2.2.2.1, hl ▸ hl2⟩)
theorem v_iinc {i : Nat} {z : Int} {x v : Int32} {L2 : List (Nat × Value)} (hd : decode cc pc = .ok (.iinc i z, 3)) (hk : ab_lk L i = some (.int x)) (hv : x + Int32.ofInt z = v) (hn : i < nL) (hl : ab_s1 L i (.int v) = L2) (kk : Vd own nm cc nL ret R Q mc ms k n (pc + 3) L2 st h) : Vd own nm cc nL ret R Q mc ms k n pc L st h := by
  intro p l e s m args below meth c dC dI ac sk A ad0 n0 Qs E ad H locs ls N
  obtain ⟨j, hj⟩ := List.getElem?_of_mem (List.mem_map.mpr ⟨(i, .int x), ab_lk_in hk, rfl⟩ : (i, xv ad sk (.int x)) ∈ L.map (fun q => (q.1, xv ad sk q.2)))
  exact lv_iinc (k := j) E.1.1 E.1.2.1 hd N.2.2.2.2 hj hv hn (ab_s1_map (v := .int v) (ad := ad) (sk := sk)) (fun ls2 hl2 => kk p l e s m args below meth c dC dI ac sk A ad0 n0 Qs E ad H locs ls2 ⟨N.1, N.2.1, N.2.2.1, N.2.2.2.1, hl ▸ hl2⟩)
theorem v_iadd {x y : Int32} (hd : decode cc pc = .ok (.iadd, 1)) (kk : Vd own nm cc nL ret R Q mc ms k n (pc + 1) L (.int (x + y) :: st) h) : Vd own nm cc nL ret R Q mc ms k n pc L (.int y :: .int x :: st) h := by
  intro p l e s m args below meth c dC dI ac sk A ad0 n0 Qs E ad H locs ls N
  exact lv_iadd E.1.1 E.1.2.1 hd (kk p l e s m args below meth c dC dI ac sk A ad0 n0 Qs E ad H locs ls N)
theorem v_isub {x y : Int32} (hd : decode cc pc = .ok (.isub, 1)) (kk : Vd own nm cc nL ret R Q mc ms k n (pc + 1) L (.int (x - y) :: st) h) : Vd own nm cc nL ret R Q mc ms k n pc L (.int y :: .int x :: st) h := by
  intro p l e s m args below meth c dC dI ac sk A ad0 n0 Qs E ad H locs ls N
  exact lv_isub E.1.1 E.1.2.1 hd (kk p l e s m args below meth c dC dI ac sk A ad0 n0 Qs E ad H locs ls N)
theorem v_imul {x y : Int32} (hd : decode cc pc = .ok (.imul, 1)) (kk : Vd own nm cc nL ret R Q mc ms k n (pc + 1) L (.int (x * y) :: st) h) : Vd own nm cc nL ret R Q mc ms k n pc L (.int y :: .int x :: st) h := by
  intro p l e s m args below meth c dC dI ac sk A ad0 n0 Qs E ad H locs ls N
  exact lv_imul E.1.1 E.1.2.1 hd (kk p l e s m args below meth c dC dI ac sk A ad0 n0 Qs E ad H locs ls N)
theorem v_iand {x y : Int32} (hd : decode cc pc = .ok (.iand, 1)) (kk : Vd own nm cc nL ret R Q mc ms k n (pc + 1) L (.int (x &&& y) :: st) h) : Vd own nm cc nL ret R Q mc ms k n pc L (.int y :: .int x :: st) h := by
  intro p l e s m args below meth c dC dI ac sk A ad0 n0 Qs E ad H locs ls N
  exact lv_iand E.1.1 E.1.2.1 hd (kk p l e s m args below meth c dC dI ac sk A ad0 n0 Qs E ad H locs ls N)
theorem v_ior {x y : Int32} (hd : decode cc pc = .ok (.ior, 1)) (kk : Vd own nm cc nL ret R Q mc ms k n (pc + 1) L (.int (x ||| y) :: st) h) : Vd own nm cc nL ret R Q mc ms k n pc L (.int y :: .int x :: st) h := by
  intro p l e s m args below meth c dC dI ac sk A ad0 n0 Qs E ad H locs ls N
  exact lv_ior E.1.1 E.1.2.1 hd (kk p l e s m args below meth c dC dI ac sk A ad0 n0 Qs E ad H locs ls N)
theorem v_ixor {x y : Int32} (hd : decode cc pc = .ok (.ixor, 1)) (kk : Vd own nm cc nL ret R Q mc ms k n (pc + 1) L (.int (x ^^^ y) :: st) h) : Vd own nm cc nL ret R Q mc ms k n pc L (.int y :: .int x :: st) h := by
  intro p l e s m args below meth c dC dI ac sk A ad0 n0 Qs E ad H locs ls N
  exact lv_ixor E.1.1 E.1.2.1 hd (kk p l e s m args below meth c dC dI ac sk A ad0 n0 Qs E ad H locs ls N)
theorem v_ishl {x y : Int32} (hd : decode cc pc = .ok (.ishl, 1)) (kk : Vd own nm cc nL ret R Q mc ms k n (pc + 1) L (.int (x <<< (y &&& 31)) :: st) h) : Vd own nm cc nL ret R Q mc ms k n pc L (.int y :: .int x :: st) h := by
  intro p l e s m args below meth c dC dI ac sk A ad0 n0 Qs E ad H locs ls N
  exact lv_ishl E.1.1 E.1.2.1 hd (kk p l e s m args below meth c dC dI ac sk A ad0 n0 Qs E ad H locs ls N)
theorem v_ishr {x y : Int32} (hd : decode cc pc = .ok (.ishr, 1)) (kk : Vd own nm cc nL ret R Q mc ms k n (pc + 1) L (.int (x >>> (y &&& 31)) :: st) h) : Vd own nm cc nL ret R Q mc ms k n pc L (.int y :: .int x :: st) h := by
  intro p l e s m args below meth c dC dI ac sk A ad0 n0 Qs E ad H locs ls N
  exact lv_ishr E.1.1 E.1.2.1 hd (kk p l e s m args below meth c dC dI ac sk A ad0 n0 Qs E ad H locs ls N)
theorem v_idiv {x y : Int32} (hd : decode cc pc = .ok (.idiv, 1)) (hne : ¬ y = 0) (kk : Vd own nm cc nL ret R Q mc ms k n (pc + 1) L (.int (x / y) :: st) h) : Vd own nm cc nL ret R Q mc ms k n pc L (.int y :: .int x :: st) h := by
  intro p l e s m args below meth c dC dI ac sk A ad0 n0 Qs E ad H locs ls N
  exact lv_idiv E.1.1 E.1.2.1 hd hne (kk p l e s m args below meth c dC dI ac sk A ad0 n0 Qs E ad H locs ls N)
theorem v_irem {x y : Int32} (hd : decode cc pc = .ok (.irem, 1)) (hne : ¬ y = 0) (kk : Vd own nm cc nL ret R Q mc ms k n (pc + 1) L (.int (x - x / y * y) :: st) h) : Vd own nm cc nL ret R Q mc ms k n pc L (.int y :: .int x :: st) h := by
  intro p l e s m args below meth c dC dI ac sk A ad0 n0 Qs E ad H locs ls N
  exact lv_irem E.1.1 E.1.2.1 hd hne (kk p l e s m args below meth c dC dI ac sk A ad0 n0 Qs E ad H locs ls N)
theorem v_ladd {x y : Int64} (hd : decode cc pc = .ok (.ladd, 1)) (kk : Vd own nm cc nL ret R Q mc ms k n (pc + 1) L (.long (x + y) :: st) h) : Vd own nm cc nL ret R Q mc ms k n pc L (.long y :: .long x :: st) h := by
  intro p l e s m args below meth c dC dI ac sk A ad0 n0 Qs E ad H locs ls N
  exact lv_ladd E.1.1 E.1.2.1 hd (kk p l e s m args below meth c dC dI ac sk A ad0 n0 Qs E ad H locs ls N)
theorem v_lsub {x y : Int64} (hd : decode cc pc = .ok (.lsub, 1)) (kk : Vd own nm cc nL ret R Q mc ms k n (pc + 1) L (.long (x - y) :: st) h) : Vd own nm cc nL ret R Q mc ms k n pc L (.long y :: .long x :: st) h := by
  intro p l e s m args below meth c dC dI ac sk A ad0 n0 Qs E ad H locs ls N
  exact lv_lsub E.1.1 E.1.2.1 hd (kk p l e s m args below meth c dC dI ac sk A ad0 n0 Qs E ad H locs ls N)
theorem v_lmul {x y : Int64} (hd : decode cc pc = .ok (.lmul, 1)) (kk : Vd own nm cc nL ret R Q mc ms k n (pc + 1) L (.long (x * y) :: st) h) : Vd own nm cc nL ret R Q mc ms k n pc L (.long y :: .long x :: st) h := by
  intro p l e s m args below meth c dC dI ac sk A ad0 n0 Qs E ad H locs ls N
  exact lv_lmul E.1.1 E.1.2.1 hd (kk p l e s m args below meth c dC dI ac sk A ad0 n0 Qs E ad H locs ls N)
theorem v_ldiv {x y : Int64} (hd : decode cc pc = .ok (.ldiv, 1)) (hne : ¬ y = 0) (kk : Vd own nm cc nL ret R Q mc ms k n (pc + 1) L (.long (x / y) :: st) h) : Vd own nm cc nL ret R Q mc ms k n pc L (.long y :: .long x :: st) h := by
  intro p l e s m args below meth c dC dI ac sk A ad0 n0 Qs E ad H locs ls N
  exact lv_ldiv E.1.1 E.1.2.1 hd hne (kk p l e s m args below meth c dC dI ac sk A ad0 n0 Qs E ad H locs ls N)
theorem v_lrem {x y : Int64} (hd : decode cc pc = .ok (.lrem, 1)) (hne : ¬ y = 0) (kk : Vd own nm cc nL ret R Q mc ms k n (pc + 1) L (.long (x - x / y * y) :: st) h) : Vd own nm cc nL ret R Q mc ms k n pc L (.long y :: .long x :: st) h := by
  intro p l e s m args below meth c dC dI ac sk A ad0 n0 Qs E ad H locs ls N
  exact lv_lrem E.1.1 E.1.2.1 hd hne (kk p l e s m args below meth c dC dI ac sk A ad0 n0 Qs E ad H locs ls N)
theorem v_lneg {x : Int64} (hd : decode cc pc = .ok (.lneg, 1)) (kk : Vd own nm cc nL ret R Q mc ms k n (pc + 1) L (.long (-x) :: st) h) : Vd own nm cc nL ret R Q mc ms k n pc L (.long x :: st) h := by
  intro p l e s m args below meth c dC dI ac sk A ad0 n0 Qs E ad H locs ls N
  exact lv_lneg E.1.1 E.1.2.1 hd (kk p l e s m args below meth c dC dI ac sk A ad0 n0 Qs E ad H locs ls N)
theorem v_ineg {x : Int32} (hd : decode cc pc = .ok (.ineg, 1)) (kk : Vd own nm cc nL ret R Q mc ms k n (pc + 1) L (.int (-x) :: st) h) : Vd own nm cc nL ret R Q mc ms k n pc L (.int x :: st) h := by
  intro p l e s m args below meth c dC dI ac sk A ad0 n0 Qs E ad H locs ls N
  exact lv_ineg E.1.1 E.1.2.1 hd (kk p l e s m args below meth c dC dI ac sk A ad0 n0 Qs E ad H locs ls N)
theorem v_lcmp {x y : Int64} (hd : decode cc pc = .ok (.lcmp, 1)) (kk : Vd own nm cc nL ret R Q mc ms k n (pc + 1) L (.int (lg_cmp x y) :: st) h) : Vd own nm cc nL ret R Q mc ms k n pc L (.long y :: .long x :: st) h := by
  intro p l e s m args below meth c dC dI ac sk A ad0 n0 Qs E ad H locs ls N
  exact W.lcmp E.1.1 E.1.2.1 hd (kk p l e s m args below meth c dC dI ac sk A ad0 n0 Qs E ad H locs ls N)
theorem v_i2l {x : Int32} (hd : decode cc pc = .ok (.i2l, 1)) (kk : Vd own nm cc nL ret R Q mc ms k n (pc + 1) L (.long x.toInt64 :: st) h) : Vd own nm cc nL ret R Q mc ms k n pc L (.int x :: st) h := by
  intro p l e s m args below meth c dC dI ac sk A ad0 n0 Qs E ad H locs ls N
  exact lv_i2l E.1.1 E.1.2.1 hd rfl (kk p l e s m args below meth c dC dI ac sk A ad0 n0 Qs E ad H locs ls N)
theorem v_i2b {x : Int32} (hd : decode cc pc = .ok (.i2b, 1)) (kk : Vd own nm cc nL ret R Q mc ms k n (pc + 1) L (.int x.toInt8.toInt32 :: st) h) : Vd own nm cc nL ret R Q mc ms k n pc L (.int x :: st) h := by
  intro p l e s m args below meth c dC dI ac sk A ad0 n0 Qs E ad H locs ls N
  exact lv_i2b E.1.1 E.1.2.1 hd rfl (kk p l e s m args below meth c dC dI ac sk A ad0 n0 Qs E ad H locs ls N)
theorem v_i2s {x : Int32} (hd : decode cc pc = .ok (.i2s, 1)) (kk : Vd own nm cc nL ret R Q mc ms k n (pc + 1) L (.int x.toInt16.toInt32 :: st) h) : Vd own nm cc nL ret R Q mc ms k n pc L (.int x :: st) h := by
  intro p l e s m args below meth c dC dI ac sk A ad0 n0 Qs E ad H locs ls N
  exact lv_i2s E.1.1 E.1.2.1 hd rfl (kk p l e s m args below meth c dC dI ac sk A ad0 n0 Qs E ad H locs ls N)
theorem v_iushr {x y : Int32} (hd : decode cc pc = .ok (.iushr, 1)) (kk : Vd own nm cc nL ret R Q mc ms k n (pc + 1) L (.int (x.toUInt32 >>> (y.toUInt32 &&& Int32.toUInt32 31)).toInt32 :: st) h) : Vd own nm cc nL ret R Q mc ms k n pc L (.int y :: .int x :: st) h := by
  intro p l e s m args below meth c dC dI ac sk A ad0 n0 Qs E ad H locs ls N
  exact lv_iushr E.1.1 E.1.2.1 hd rfl (kk p l e s m args below meth c dC dI ac sk A ad0 n0 Qs E ad H locs ls N)
theorem v_dup {v : Value} (hd : decode cc pc = .ok (.dup, 1)) (hc : v.category = 1) (kk : Vd own nm cc nL ret R Q mc ms k n (pc + 1) L (v :: v :: st) h) : Vd own nm cc nL ret R Q mc ms k n pc L (v :: st) h := by
  intro p l e s m args below meth c dC dI ac sk A ad0 n0 Qs E ad H locs ls N
  exact lv_dup E.1.1 E.1.2.1 hd ((xv_cat ad sk v).trans hc) (kk p l e s m args below meth c dC dI ac sk A ad0 n0 Qs E ad H locs ls N)
theorem v_pop {v : Value} (hd : decode cc pc = .ok (.pop, 1)) (hc : v.category = 1) (kk : Vd own nm cc nL ret R Q mc ms k n (pc + 1) L (st) h) : Vd own nm cc nL ret R Q mc ms k n pc L (v :: st) h := by
  intro p l e s m args below meth c dC dI ac sk A ad0 n0 Qs E ad H locs ls N
  exact lv_pop E.1.1 E.1.2.1 hd ((xv_cat ad sk v).trans hc) (kk p l e s m args below meth c dC dI ac sk A ad0 n0 Qs E ad H locs ls N)
theorem v_dup2 {v w : Value} (hd : decode cc pc = .ok (.dup2, 1)) (hc : v.category = 1) (hc2 : w.category = 1) (kk : Vd own nm cc nL ret R Q mc ms k n (pc + 1) L (v :: w :: v :: w :: st) h) : Vd own nm cc nL ret R Q mc ms k n pc L (v :: w :: st) h := by
  intro p l e s m args below meth c dC dI ac sk A ad0 n0 Qs E ad H locs ls N
  exact lv_dup2_11 E.1.1 E.1.2.1 hd ((xv_cat ad sk v).trans hc) ((xv_cat ad sk w).trans hc2) (kk p l e s m args below meth c dC dI ac sk A ad0 n0 Qs E ad H locs ls N)
theorem v_if_eq {x : Int32} {off : Int} {tgt : Nat} (hd : decode cc pc = .ok (.ifCond .eq off, 3)) (ht : (pc : Int) + off = (tgt : Int)) (kt : x = 0 → Vd own nm cc nL ret R Q mc ms k n tgt L st h) (kf : ¬ x = 0 → Vd own nm cc nL ret R Q mc ms k n (pc + 3) L st h) : Vd own nm cc nL ret R Q mc ms k n pc L (.int x :: st) h := by
  intro p l e s m args below meth c dC dI ac sk A ad0 n0 Qs E ad H locs ls N
  exact lv_if_eq E.1.1 E.1.2.1 hd ht (fun q => kt q p l e s m args below meth c dC dI ac sk A ad0 n0 Qs E ad H locs ls N) (fun q => kf q p l e s m args below meth c dC dI ac sk A ad0 n0 Qs E ad H locs ls N)
theorem v_icmp_eq {x y : Int32} {off : Int} {tgt : Nat} (hd : decode cc pc = .ok (.if_icmp .eq off, 3)) (ht : (pc : Int) + off = (tgt : Int)) (kt : x = y → Vd own nm cc nL ret R Q mc ms k n tgt L st h) (kf : ¬ x = y → Vd own nm cc nL ret R Q mc ms k n (pc + 3) L st h) : Vd own nm cc nL ret R Q mc ms k n pc L (.int y :: .int x :: st) h := by
  intro p l e s m args below meth c dC dI ac sk A ad0 n0 Qs E ad H locs ls N
  exact lv_icmp_eq E.1.1 E.1.2.1 hd ht (fun q => kt q p l e s m args below meth c dC dI ac sk A ad0 n0 Qs E ad H locs ls N) (fun q => kf q p l e s m args below meth c dC dI ac sk A ad0 n0 Qs E ad H locs ls N)
theorem v_if_ne {x : Int32} {off : Int} {tgt : Nat} (hd : decode cc pc = .ok (.ifCond .ne off, 3)) (ht : (pc : Int) + off = (tgt : Int)) (kt : ¬ x = 0 → Vd own nm cc nL ret R Q mc ms k n tgt L st h) (kf : x = 0 → Vd own nm cc nL ret R Q mc ms k n (pc + 3) L st h) : Vd own nm cc nL ret R Q mc ms k n pc L (.int x :: st) h := by
  intro p l e s m args below meth c dC dI ac sk A ad0 n0 Qs E ad H locs ls N
  exact lv_if_ne E.1.1 E.1.2.1 hd ht (fun q => kt q p l e s m args below meth c dC dI ac sk A ad0 n0 Qs E ad H locs ls N) (fun q => kf q p l e s m args below meth c dC dI ac sk A ad0 n0 Qs E ad H locs ls N)
theorem v_icmp_ne {x y : Int32} {off : Int} {tgt : Nat} (hd : decode cc pc = .ok (.if_icmp .ne off, 3)) (ht : (pc : Int) + off = (tgt : Int)) (kt : ¬ x = y → Vd own nm cc nL ret R Q mc ms k n tgt L st h) (kf : x = y → Vd own nm cc nL ret R Q mc ms k n (pc + 3) L st h) : Vd own nm cc nL ret R Q mc ms k n pc L (.int y :: .int x :: st) h := by
  intro p l e s m args below meth c dC dI ac sk A ad0 n0 Qs E ad H locs ls N
  exact lv_icmp_ne E.1.1 E.1.2.1 hd ht (fun q => kt q p l e s m args below meth c dC dI ac sk A ad0 n0 Qs E ad H locs ls N) (fun q => kf q p l e s m args below meth c dC dI ac sk A ad0 n0 Qs E ad H locs ls N)
theorem v_if_lt {x : Int32} {off : Int} {tgt : Nat} (hd : decode cc pc = .ok (.ifCond .lt off, 3)) (ht : (pc : Int) + off = (tgt : Int)) (kt : x < 0 → Vd own nm cc nL ret R Q mc ms k n tgt L st h) (kf : ¬ x < 0 → Vd own nm cc nL ret R Q mc ms k n (pc + 3) L st h) : Vd own nm cc nL ret R Q mc ms k n pc L (.int x :: st) h := by
  intro p l e s m args below meth c dC dI ac sk A ad0 n0 Qs E ad H locs ls N
  exact lv_if_lt E.1.1 E.1.2.1 hd ht (fun q => kt q p l e s m args below meth c dC dI ac sk A ad0 n0 Qs E ad H locs ls N) (fun q => kf q p l e s m args below meth c dC dI ac sk A ad0 n0 Qs E ad H locs ls N)
theorem v_icmp_lt {x y : Int32} {off : Int} {tgt : Nat} (hd : decode cc pc = .ok (.if_icmp .lt off, 3)) (ht : (pc : Int) + off = (tgt : Int)) (kt : x < y → Vd own nm cc nL ret R Q mc ms k n tgt L st h) (kf : ¬ x < y → Vd own nm cc nL ret R Q mc ms k n (pc + 3) L st h) : Vd own nm cc nL ret R Q mc ms k n pc L (.int y :: .int x :: st) h := by
  intro p l e s m args below meth c dC dI ac sk A ad0 n0 Qs E ad H locs ls N
  exact lv_icmp_lt E.1.1 E.1.2.1 hd ht (fun q => kt q p l e s m args below meth c dC dI ac sk A ad0 n0 Qs E ad H locs ls N) (fun q => kf q p l e s m args below meth c dC dI ac sk A ad0 n0 Qs E ad H locs ls N)
theorem v_if_ge {x : Int32} {off : Int} {tgt : Nat} (hd : decode cc pc = .ok (.ifCond .ge off, 3)) (ht : (pc : Int) + off = (tgt : Int)) (kt : 0 ≤ x → Vd own nm cc nL ret R Q mc ms k n tgt L st h) (kf : ¬ 0 ≤ x → Vd own nm cc nL ret R Q mc ms k n (pc + 3) L st h) : Vd own nm cc nL ret R Q mc ms k n pc L (.int x :: st) h := by
  intro p l e s m args below meth c dC dI ac sk A ad0 n0 Qs E ad H locs ls N
  exact lv_if_ge E.1.1 E.1.2.1 hd ht (fun q => kt q p l e s m args below meth c dC dI ac sk A ad0 n0 Qs E ad H locs ls N) (fun q => kf q p l e s m args below meth c dC dI ac sk A ad0 n0 Qs E ad H locs ls N)
theorem v_icmp_ge {x y : Int32} {off : Int} {tgt : Nat} (hd : decode cc pc = .ok (.if_icmp .ge off, 3)) (ht : (pc : Int) + off = (tgt : Int)) (kt : y ≤ x → Vd own nm cc nL ret R Q mc ms k n tgt L st h) (kf : ¬ y ≤ x → Vd own nm cc nL ret R Q mc ms k n (pc + 3) L st h) : Vd own nm cc nL ret R Q mc ms k n pc L (.int y :: .int x :: st) h := by
  intro p l e s m args below meth c dC dI ac sk A ad0 n0 Qs E ad H locs ls N
  exact lv_icmp_ge E.1.1 E.1.2.1 hd ht (fun q => kt q p l e s m args below meth c dC dI ac sk A ad0 n0 Qs E ad H locs ls N) (fun q => kf q p l e s m args below meth c dC dI ac sk A ad0 n0 Qs E ad H locs ls N)
theorem v_if_gt {x : Int32} {off : Int} {tgt : Nat} (hd : decode cc pc = .ok (.ifCond .gt off, 3)) (ht : (pc : Int) + off = (tgt : Int)) (kt : 0 < x → Vd own nm cc nL ret R Q mc ms k n tgt L st h) (kf : ¬ 0 < x → Vd own nm cc nL ret R Q mc ms k n (pc + 3) L st h) : Vd own nm cc nL ret R Q mc ms k n pc L (.int x :: st) h := by
  intro p l e s m args below meth c dC dI ac sk A ad0 n0 Qs E ad H locs ls N
  exact lv_if_gt E.1.1 E.1.2.1 hd ht (fun q => kt q p l e s m args below meth c dC dI ac sk A ad0 n0 Qs E ad H locs ls N) (fun q => kf q p l e s m args below meth c dC dI ac sk A ad0 n0 Qs E ad H locs ls N)
theorem v_icmp_gt {x y : Int32} {off : Int} {tgt : Nat} (hd : decode cc pc = .ok (.if_icmp .gt off, 3)) (ht : (pc : Int) + off = (tgt : Int)) (kt : y < x → Vd own nm cc nL ret R Q mc ms k n tgt L st h) (kf : ¬ y < x → Vd own nm cc nL ret R Q mc ms k n (pc + 3) L st h) : Vd own nm cc nL ret R Q mc ms k n pc L (.int y :: .int x :: st) h := by
  intro p l e s m args below meth c dC dI ac sk A ad0 n0 Qs E ad H locs ls N
  exact lv_icmp_gt E.1.1 E.1.2.1 hd ht (fun q => kt q p l e s m args below meth c dC dI ac sk A ad0 n0 Qs E ad H locs ls N) (fun q => kf q p l e s m args below meth c dC dI ac sk A ad0 n0 Qs E ad H locs ls N)
theorem v_if_le {x : Int32} {off : Int} {tgt : Nat} (hd : decode cc pc = .ok (.ifCond .le off, 3)) (ht : (pc : Int) + off = (tgt : Int)) (kt : x ≤ 0 → Vd own nm cc nL ret R Q mc ms k n tgt L st h) (kf : ¬ x ≤ 0 → Vd own nm cc nL ret R Q mc ms k n (pc + 3) L st h) : Vd own nm cc nL ret R Q mc ms k n pc L (.int x :: st) h := by
  intro p l e s m args below meth c dC dI ac sk A ad0 n0 Qs E ad H locs ls N
  exact lv_if_le E.1.1 E.1.2.1 hd ht (fun q => kt q p l e s m args below meth c dC dI ac sk A ad0 n0 Qs E ad H locs ls N) (fun q => kf q p l e s m args below meth c dC dI ac sk A ad0 n0 Qs E ad H locs ls N)
theorem v_icmp_le {x y : Int32} {off : Int} {tgt : Nat} (hd : decode cc pc = .ok (.if_icmp .le off, 3)) (ht : (pc : Int) + off = (tgt : Int)) (kt : x ≤ y → Vd own nm cc nL ret R Q mc ms k n tgt L st h) (kf : ¬ x ≤ y → Vd own nm cc nL ret R Q mc ms k n (pc + 3) L st h) : Vd own nm cc nL ret R Q mc ms k n pc L (.int y :: .int x :: st) h := by
  intro p l e s m args below meth c dC dI ac sk A ad0 n0 Qs E ad H locs ls N
  exact lv_icmp_le E.1.1 E.1.2.1 hd ht (fun q => kt q p l e s m args below meth c dC dI ac sk A ad0 n0 Qs E ad H locs ls N) (fun q => kf q p l e s m args below meth c dC dI ac sk A ad0 n0 Qs E ad H locs ls N)
theorem v_goto {off : Int} {tgt : Nat} (hd : decode cc pc = .ok (.goto off, 3)) (ht : (pc : Int) + off = (tgt : Int)) (kk : Vd own nm cc nL ret R Q mc ms k n tgt L st h) : Vd own nm cc nL ret R Q mc ms k n pc L st h := by
  intro p l e s m args below meth c dC dI ac sk A ad0 n0 Qs E ad H locs ls N
  exact lv_goto E.1.1 E.1.2.1 hd ht (kk p l e s m args below meth c dC dI ac sk A ad0 n0 Qs E ad H locs ls N)
theorem v_tOut {dflt lo hi : Int} {offs : Array Int} {len : Nat} {x : Int32} {tgt : Nat} (hd : decode cc pc = .ok (.tableswitch dflt lo hi offs, len)) (hx : x.toInt < lo ∨ hi < x.toInt) (ht : (pc : Int) + dflt = (tgt : Int)) (kk : Vd own nm cc nL ret R Q mc ms k n tgt L st h) : Vd own nm cc nL ret R Q mc ms k n pc L (.int x :: st) h := by
  intro p l e s m args below meth c dC dI ac sk A ad0 n0 Qs E ad H locs ls N
  exact lv_tableOut E.1.1 E.1.2.1 hd hx ht (kk p l e s m args below meth c dC dI ac sk A ad0 n0 Qs E ad H locs ls N)
theorem v_tIn {dflt lo hi : Int} {offs : Array Int} {len : Nat} {x : Int32} (j : Int32) {off : Int} {tgt : Nat} (hd : decode cc pc = .ok (.tableswitch dflt lo hi offs, len)) (hx : x = j) (h1 : ¬ j.toInt < lo) (h2 : ¬ hi < j.toInt) (ho : offs[(j.toInt - lo).toNat]? = some off) (ht : (pc : Int) + off = (tgt : Int)) (kk : Vd own nm cc nL ret R Q mc ms k n tgt L st h) : Vd own nm cc nL ret R Q mc ms k n pc L (.int x :: st) h := by
  subst hx
  intro p l e s m args below meth c dC dI ac sk A ad0 n0 Qs E ad H locs ls N
  exact lv_tableIn E.1.1 E.1.2.1 hd h1 h2 ho ht (kk p l e s m args below meth c dC dI ac sk A ad0 n0 Qs E ad H locs ls N)
theorem v_look {dflt : Int} {ps : Array (Int × Int)} {len : Nat} {x : Int32} {off : Int} {tgt : Nat} (hd : decode cc pc = .ok (.lookupswitch dflt ps, len)) (hp : (ps.toList.zip (ps.toList.drop 1)).all (fun (a, next) => a.1 < next.1) = true) (ho : Op.lookupswitch.offset ps.toList dflt x.toInt = off) (ht : (pc : Int) + off = (tgt : Int)) (kk : Vd own nm cc nL ret R Q mc ms k n tgt L st h) : Vd own nm cc nL ret R Q mc ms k n pc L (.int x :: st) h := by
  intro p l e s m args below meth c dC dI ac sk A ad0 n0 Qs E ad H locs ls N
  exact lv_lookup E.1.1 E.1.2.1 hd hp ho ht (kk p l e s m args below meth c dC dI ac sk A ad0 n0 Qs E ad H locs ls N)
theorem v_ldc {i : Nat} {v : Int32} (hd : decode cc pc = .ok (.ldc i, 2)) (hw : Cond.constant own i v ∈ gw) (kk : Vd own nm cc nL ret R Q mc ms k n (pc + 2) L (.int v :: st) h) : Vd own nm cc nL ret R Q mc ms k n pc L (st) h := by
  intro p l e s m args below meth c dC dI ac sk A ad0 n0 Qs E ad H locs ls N
  exact lv_ldc E.1.1 E.1.2.1 E.1.2.2.2.2.1 (E.1.2.2.2.2.2.1 _ hw) hd (kk p l e s m args below meth c dC dI ac sk A ad0 n0 Qs E ad H locs ls N)
theorem v_ldc2 {i : Nat} {v : Int64} (hd : decode cc pc = .ok (.ldc2_w i, 3)) (hw : Cond.constantLong own i v ∈ gw) (kk : Vd own nm cc nL ret R Q mc ms k n (pc + 3) L (.long v :: st) h) : Vd own nm cc nL ret R Q mc ms k n pc L (st) h := by
  intro p l e s m args below meth c dC dI ac sk A ad0 n0 Qs E ad H locs ls N
  exact lv_ldc2 E.1.1 E.1.2.1 E.1.2.2.2.2.1 (E.1.2.2.2.2.2.1 _ hw) hd (kk p l e s m args below meth c dC dI ac sk A ad0 n0 Qs E ad H locs ls N)
theorem v_topi {x : Int32} (kk : ∀ y : Int32, y = x → Vd own nm cc nL ret R Q mc ms k n pc L (.int y :: st) h) : Vd own nm cc nL ret R Q mc ms k n pc L (.int x :: st) h := kk x rfl
theorem v_topl {x : Int64} (kk : ∀ y : Int64, y = x → Vd own nm cc nL ret R Q mc ms k n pc L (.long y :: st) h) : Vd own nm cc nL ret R Q mc ms k n pc L (.long x :: st) h := kk x rfl
theorem v_loc {L2 : List (Nat × Value)} (ks : List Nat) (hl : lv_pick L ks = L2) (kk : Vd own nm cc nL ret R Q mc ms k n pc L2 st h) : Vd own nm cc nL ret R Q mc ms k n pc L st h := by
  intro p l e s m args below meth c dC dI ac sk A ad0 n0 Qs E ad H locs ls N
  refine kk p l e s m args below meth c dC dI ac sk A ad0 n0 Qs E ad H locs ls (N.loc (fun q hq => ?_))
  rw [← hl] at hq
  obtain ⟨i, -, hi⟩ := List.mem_filterMap.mp hq
  exact List.mem_of_getElem? hi
theorem v_heap {h2 : ab_H} (he : h = h2) (kk : Vd own nm cc nL ret R Q mc ms k n pc L st h2) : Vd own nm cc nL ret R Q mc ms k n pc L st h := he ▸ kk
end VROWS
end
section

section VHEAP
variable {own nm : String} {cc : ByteArray} {nL : Nat} {ret : Option FieldType} {R : Room} {Q : Option Value → ab_H → Prop} {mc ms k n pc : Nat} {L : List (Nat × Value)} {st : List Value} {h : ab_H}
/-- a field of a class, as a link of a class names it -/
def FL (own : String) (idx ci k : Nat) (ty : FieldType) (fin : Bool) : Prop := ∃ (C : String) (T : u_T) (N : Nat) (tyf : Nat → FieldType), vwCl[ci]? = some (C, T, N) ∧ (∀ w ∈ u_ws C T N, w ∈ gw) ∧ k < N ∧ Cond.fieldLink own idx C (T k).2.1 (T k).2.2.1 ∈ gw ∧ (T k).1 = C ∧ (T k).2.2.2 = fin ∧ parseFieldDescriptor (T k).2.2.1 = some ty ∧ (∀ k, k < N → parseFieldDescriptor (T k).2.2.1 = some (tyf k)) ∧ (∀ a, a < N → ∀ b, b < N → a ≠ b → (T a).2.1 ≠ (T b).2.1)
theorem Nw.upd {dC : Nat → ClassId} {dI : Nat → Nat → Nat} {ac : Nat → ClassId} {sk : Nat → Nat} {A : Nat → Prop} {ad0 : Nat → Nat} {n0 : Nat} {s : State} {nL : Nat} {L : List (Nat × Value)} {h : ab_H} {ad : Nat → Nat} {H H1 : Heap} {locs locs1 : List Loc} {ls : Array Slot} {b : Nat} {c : ab_C} (N : Nw dC dI ac sk A ad0 n0 s nL L h ad H locs ls) (hP : va_P (dC, dI) vwCl ((xw ad sk ac h).set b (ad b, xc ad sk ac c)) H1) (hD : va_D A ((xw ad sk ac h).set b (ad b, xc ad sk ac c))) (hS : va_S A s.heap H1 locs1) : Nw dC dI ac sk A ad0 n0 s nL L (h.set b c) ad H1 locs1 ls := by
  rw [xw_set] at hP hD
  exact ⟨⟨by rw [List.length_set]; exact N.1.1, N.1.2.1, by rw [List.length_set]; exact N.1.2.2⟩, hP, hD, hS, N.2.2.2.2⟩
theorem v_get {idx ci j b : Nat} {ty : FieldType} {fin : Bool} {fs : List Value} {v : Value} (hd : decode cc pc = .ok (.getfield idx, 3)) (f : FL own idx ci j ty fin) (hh : h[b]? = some (aO ci fs)) (hv : fs[j]? = some v) (kk : Vd own nm cc nL ret R Q mc ms k n (pc + 3) L (v :: st) h) : Vd own nm cc nL ret R Q mc ms k n pc L (.ref b :: st) h := by
  intro p l e s m args below meth c dC dI ac sk A ad0 n0 Qs E ad H locs ls N
  obtain ⟨C, T, NN, tyf, f1, f2, f3, f4, f5, f6, f7, f8, f9⟩ := f
  exact va_get (ref := C) E.1.1 E.1.2.1 E.1.2.2.2.2.2.1 f2 E.1.2.2.2.2.1 E.2.2.2.1 N.2.1 b (xw_of hh) f1 j f3 (E.1.2.2.2.2.2.1 _ f4) (by rw [f5]; exact fun _ h9 => h9) (by rw [List.getElem?_map, hv]; rfl) hd (kk p l e s m args below meth c dC dI ac sk A ad0 n0 Qs E ad H locs ls N)
theorem v_put {idx ci j b : Nat} {ty : FieldType} {fs : List Value} {v : Value} (hd : decode cc pc = .ok (.putfield idx, 3)) (f : FL own idx ci j ty false) (hh : h[b]? = some (aO ci fs)) (hn : ∀ ad sk, narrow ty (xv ad sk v) = xv ad sk v) (hf : ∀ ad sk, fits ty (xv ad sk v) = true) (hl : j < fs.length) (kk : Vd own nm cc nL ret R Q mc ms k n (pc + 3) L st (h.set b (aO ci (fs.set j v)))) : Vd own nm cc nL ret R Q mc ms k n pc L (v :: .ref b :: st) h := by
  intro p l e s m args below meth c dC dI ac sk A ad0 n0 Qs E ad H locs ls N
  obtain ⟨C, T, NN, tyf, f1, f2, f3, f4, f5, f6, f7, f8, f9⟩ := f
  refine va_put (ref := C) E.1.1 E.1.2.1 E.1.2.2.2.2.2.1 f2 tyf f8 f9 E.1.2.2.2.2.1 E.2.2.2.1 N.2.1 N.2.2.1 N.2.2.2.1 b (xw_of hh) f1 j f3 (E.1.2.2.2.2.2.1 _ f4) (by rw [f5]; exact fun _ h9 => h9) f6 f7 (hn ad sk) (hf ad sk) (by rw [List.length_map]; exact hl) hd (fun H1 locs1 hP hD hS => ?_)
  rw [← List.map_set] at hP hD
  exact kk p l e s m args below meth c dC dI ac sk A ad0 n0 Qs E ad H1 locs1 ls (N.upd (c := aO ci (fs.set j v)) hP hD hS)
theorem v_putF {idx ci j b : Nat} {ty : FieldType} {fs : List Value} {v : Value} (hd : decode cc pc = .ok (.putfield idx, 3)) (f : FL own idx ci j ty true) (hown : (vwCl[ci]?).map (fun q => q.1) = some own) (hnm : nm = "<init>") (hh : h[b]? = some (aO ci fs)) (hn : ∀ ad sk, narrow ty (xv ad sk v) = xv ad sk v) (hf : ∀ ad sk, fits ty (xv ad sk v) = true) (hl : j < fs.length) (kk : Vd own nm cc nL ret R Q mc ms k n (pc + 3) L st (h.set b (aO ci (fs.set j v)))) : Vd own nm cc nL ret R Q mc ms k n pc L (v :: .ref b :: st) h := by
  intro p l e s m args below meth c dC dI ac sk A ad0 n0 Qs E ad H locs ls N
  obtain ⟨C, T, NN, tyf, f1, f2, f3, f4, f5, f6, f7, f8, f9⟩ := f
  have ho : C = own := by rw [f1] at hown; exact Option.some.inj hown
  refine va_putF (ref := C) E.1.1 E.1.2.1 E.1.2.2.2.2.2.1 f2 tyf f8 f9 E.1.2.2.2.2.1 E.2.2.2.1 N.2.1 N.2.2.1 N.2.2.2.1 b (xw_of hh) f1 j f3 (E.1.2.2.2.2.2.1 _ f4) (by rw [f5]; exact fun _ h9 => h9) f6 (E.1.2.2.2.2.2.2.2.trans hnm) (f5.trans ho) f7 (hn ad sk) (hf ad sk) (by rw [List.length_map]; exact hl) hd (fun H1 locs1 hP hD hS => ?_)
  rw [← List.map_set] at hP hD
  exact kk p l e s m args below meth c dC dI ac sk A ad0 n0 Qs E ad H1 locs1 ls (N.upd (c := aO ci (fs.set j v)) hP hD hS)
theorem v_iald {b m0 : Nat} {f : Nat → Int32} {i : Int32} (hd : decode cc pc = .ok (.iaload, 1)) (hh : h[b]? = some (aI 0 m0 f)) (hi : vp_in i m0) (kk : Vd own nm cc nL ret R Q mc ms k n (pc + 1) L (.int (f i.toNatClampNeg) :: st) h) : Vd own nm cc nL ret R Q mc ms k n pc L (.int i :: .ref b :: st) h := by
  intro p l e s m args below meth c dC dI ac sk A ad0 n0 Qs E ad H locs ls N
  exact va_iald E.1.1 E.1.2.1 E.2.2.2.1 N.2.1 b 0 (xw_of hh) rfl hi hd (kk p l e s m args below meth c dC dI ac sk A ad0 n0 Qs E ad H locs ls N)
theorem v_bald {b m0 : Nat} {f : Nat → Int32} {i : Int32} (hd : decode cc pc = .ok (.baload, 1)) (hh : h[b]? = some (aI 1 m0 f)) (hi : vp_in i m0) (kk : Vd own nm cc nL ret R Q mc ms k n (pc + 1) L (.int (f i.toNatClampNeg) :: st) h) : Vd own nm cc nL ret R Q mc ms k n pc L (.int i :: .ref b :: st) h := by
  intro p l e s m args below meth c dC dI ac sk A ad0 n0 Qs E ad H locs ls N
  exact va_bald E.1.1 E.1.2.1 E.2.2.2.1 N.2.1 b 1 (xw_of hh) rfl hi hd (kk p l e s m args below meth c dC dI ac sk A ad0 n0 Qs E ad H locs ls N)
theorem v_zald {b m0 : Nat} {f : Nat → Int32} {i : Int32} (hd : decode cc pc = .ok (.baload, 1)) (hh : h[b]? = some (aI 2 m0 f)) (hi : vp_in i m0) (kk : Vd own nm cc nL ret R Q mc ms k n (pc + 1) L (.int (f i.toNatClampNeg) :: st) h) : Vd own nm cc nL ret R Q mc ms k n pc L (.int i :: .ref b :: st) h := by
  intro p l e s m args below meth c dC dI ac sk A ad0 n0 Qs E ad H locs ls N
  exact va_zald E.1.1 E.1.2.1 E.2.2.2.1 N.2.1 b 2 (xw_of hh) rfl hi hd (kk p l e s m args below meth c dC dI ac sk A ad0 n0 Qs E ad H locs ls N)
theorem v_iast {b m0 : Nat} {f : Nat → Int32} {i x : Int32} (hd : decode cc pc = .ok (.iastore, 1)) (hh : h[b]? = some (aI 0 m0 f)) (hi : vp_in i m0) (kk : Vd own nm cc nL ret R Q mc ms k n (pc + 1) L st (h.set b (aI 0 m0 (upd f i.toNatClampNeg (x))))) : Vd own nm cc nL ret R Q mc ms k n pc L (.int x :: .int i :: .ref b :: st) h := by
  intro p l e s m args below meth c dC dI ac sk A ad0 n0 Qs E ad H locs ls N
  exact va_iast E.1.1 E.1.2.1 E.2.2.2.1 N.2.1 N.2.2.1 N.2.2.2.1 b 0 (xw_of hh) rfl hi hd (fun H1 locs1 hP hD hS => kk p l e s m args below meth c dC dI ac sk A ad0 n0 Qs E ad H1 locs1 ls (N.upd (c := aI 0 m0 (upd f i.toNatClampNeg (x))) hP hD hS))
theorem v_bast {b m0 : Nat} {f : Nat → Int32} {i x : Int32} (hd : decode cc pc = .ok (.bastore, 1)) (hh : h[b]? = some (aI 1 m0 f)) (hi : vp_in i m0) (kk : Vd own nm cc nL ret R Q mc ms k n (pc + 1) L st (h.set b (aI 1 m0 (upd f i.toNatClampNeg (vp_nar .byte x))))) : Vd own nm cc nL ret R Q mc ms k n pc L (.int x :: .int i :: .ref b :: st) h := by
  intro p l e s m args below meth c dC dI ac sk A ad0 n0 Qs E ad H locs ls N
  exact va_bast E.1.1 E.1.2.1 E.2.2.2.1 N.2.1 N.2.2.1 N.2.2.2.1 b 1 (xw_of hh) rfl hi hd (fun H1 locs1 hP hD hS => kk p l e s m args below meth c dC dI ac sk A ad0 n0 Qs E ad H1 locs1 ls (N.upd (c := aI 1 m0 (upd f i.toNatClampNeg (vp_nar .byte x))) hP hD hS))
theorem v_zast {b m0 : Nat} {f : Nat → Int32} {i x : Int32} (hd : decode cc pc = .ok (.bastore, 1)) (hh : h[b]? = some (aI 2 m0 f)) (hi : vp_in i m0) (kk : Vd own nm cc nL ret R Q mc ms k n (pc + 1) L st (h.set b (aI 2 m0 (upd f i.toNatClampNeg (vp_nar .boolean x))))) : Vd own nm cc nL ret R Q mc ms k n pc L (.int x :: .int i :: .ref b :: st) h := by
  intro p l e s m args below meth c dC dI ac sk A ad0 n0 Qs E ad H locs ls N
  exact va_zast E.1.1 E.1.2.1 E.2.2.2.1 N.2.1 N.2.2.1 N.2.2.2.1 b 2 (xw_of hh) rfl hi hd (fun H1 locs1 hP hD hS => kk p l e s m args below meth c dC dI ac sk A ad0 n0 Qs E ad H1 locs1 ls (N.upd (c := aI 2 m0 (upd f i.toNatClampNeg (vp_nar .boolean x))) hP hD hS))
theorem v_alen {b tc m0 : Nat} {f : Nat → Int32} {v : Int32} (hd : decode cc pc = .ok (.arraylength, 1)) (hh : h[b]? = some (aI tc m0 f)) (htc : tc < 5) (hv : Int32.ofNat m0 = v) (kk : Vd own nm cc nL ret R Q mc ms k n (pc + 1) L (.int v :: st) h) : Vd own nm cc nL ret R Q mc ms k n pc L (.ref b :: st) h := by
  intro p l e s m args below meth c dC dI ac sk A ad0 n0 Qs E ad H locs ls N
  obtain ⟨ty, hty⟩ : ∃ ty, (ab_ty ac)[tc]? = some (ac tc, ty) := by
    rcases (show tc = 0 ∨ tc = 1 ∨ tc = 2 ∨ tc = 3 ∨ tc = 4 by omega) with rfl | rfl | rfl | rfl | rfl <;> exact ⟨_, rfl⟩
  exact va_alen E.1.1 E.1.2.1 E.2.2.2.1 N.2.1 b tc (xw_of hh) hty hv hd (kk p l e s m args below meth c dC dI ac sk A ad0 n0 Qs E ad H locs ls N)
theorem v_aald {b tc r : Nat} {lr : List (Option Nat)} {i : Int32} (hd : decode cc pc = .ok (.aaload, 1)) (hh : h[b]? = some (aR tc lr)) (htc : tc = 3 ∨ tc = 4) (hi : vp_in i lr.length) (hr : lr.getD i.toNatClampNeg none = some r) (kk : Vd own nm cc nL ret R Q mc ms k n (pc + 1) L (.ref r :: st) h) : Vd own nm cc nL ret R Q mc ms k n pc L (.int i :: .ref b :: st) h := by
  intro p l e s m args below meth c dC dI ac sk A ad0 n0 Qs E ad H locs ls N
  obtain ⟨C, hty⟩ : ∃ C, (ab_ty ac)[tc]? = some (ac tc, .object C) := by
    rcases htc with rfl | rfl <;> exact ⟨_, rfl⟩
  refine va_aldq E.1.1 E.1.2.1 E.2.2.2.1 N.2.1 b tc (xw_of hh) hty hi hd ?_
  rw [hr]
  exact (kk p l e s m args below meth c dC dI ac sk A ad0 n0 Qs E ad H locs ls N)
theorem v_iret {x : Int32} {ty : FieldType} (hd : decode cc pc = .ok (.ireturn, 1)) (hr : ret = some ty) (hn : narrow ty (.int x) = .int x) (h1 : k ≤ mc) (h2 : n ≤ ms) (hq : Q (some (.int x)) h) : Vd own nm cc nL ret R Q mc ms k n pc L [.int x] h := by
  intro p l e s m args below meth c dC dI ac sk A ad0 n0 Qs E ad H locs ls N
  exact W.widen h1 h2 (E.2.2.2.2 ad H locs ls (some (.int x)) .ireturn h pc hq (Or.inr (Or.inl ⟨ty, x, hr, rfl, rfl, hn⟩)) hd (N.loc (fun _ hq => by cases hq)))
theorem v_lret {x : Int64} (hd : decode cc pc = .ok (.lreturn, 1)) (hr : ret = some .long) (h1 : k ≤ mc) (h2 : n ≤ ms) (hq : Q (some (.long x)) h) : Vd own nm cc nL ret R Q mc ms k n pc L [.long x] h := by
  intro p l e s m args below meth c dC dI ac sk A ad0 n0 Qs E ad H locs ls N
  exact W.widen h1 h2 (E.2.2.2.2 ad H locs ls (some (.long x)) .lreturn h pc hq (Or.inr (Or.inr (Or.inl ⟨hr, x, rfl, rfl⟩))) hd (N.loc (fun _ hq => by cases hq)))
theorem v_aret {x : Nat} {t : String} (hd : decode cc pc = .ok (.areturn, 1)) (hr : ret = some (.object t)) (h1 : k ≤ mc) (h2 : n ≤ ms) (hq : Q (some (.ref x)) h) : Vd own nm cc nL ret R Q mc ms k n pc L [.ref x] h := by
  intro p l e s m args below meth c dC dI ac sk A ad0 n0 Qs E ad H locs ls N
  exact W.widen h1 h2 (E.2.2.2.2 ad H locs ls (some (.ref x)) .areturn h pc hq (Or.inr (Or.inr (Or.inr ⟨t, x, hr, rfl, rfl⟩))) hd (N.loc (fun _ hq => by cases hq)))
theorem v_vret (hd : decode cc pc = .ok (.return_, 1)) (hr : ret = none) (h1 : k ≤ mc) (h2 : n ≤ ms) (hq : Q none h) : Vd own nm cc nL ret R Q mc ms k n pc L [] h := by
  intro p l e s m args below meth c dC dI ac sk A ad0 n0 Qs E ad H locs ls N
  exact W.widen h1 h2 (E.2.2.2.2 ad H locs ls none .return_ h pc hq (Or.inl ⟨hr, rfl, rfl⟩) hd (N.loc (fun _ hq => by cases hq)))
end VHEAP
/-! A METHOD'S CONTRACT over the abstract heap -/
def Pq (dC : Nat → ClassId) (dI : Nat → Nat → Nat) (ac : Nat → ClassId) (sk : Nat → Nat) (ad0 : Nat → Nat) (n0 : Nat) (A : Nat → Prop) (Q : Option Value → ab_H → Prop) : Array Value → State → Outcome → State → Prop := fun _ st oc t =>
  (∃ (v : Option Value) (h' : ab_H) (ad' : Nat → Nat), oc = .returned (v.map (xv ad' sk)) ∧ Q v h' ∧ (n0 ≤ h'.length ∧ (∀ j, j < n0 → ad' j = ad0 j) ∧ (h'.length = n0 → ad' = ad0)) ∧ va_P (dC, dI) vwCl (xw ad' sk ac h') t.heap ∧ va_D A (xw ad' sk ac h')) ∧ va_F A st t
def Mt (y : MethodName) (cc : ByteArray) (nL : Nat) (ret : Option FieldType) (R : Room) (as : List Value) (h : ab_H) (Q : Option Value → ab_H → Prop) : Prop :=
  ∀ (l : Launch) (dC : Nat → ClassId) (dI : Nat → Nat → Nat) (ac : Nat → ClassId) (sk ad : Nat → Nat) (sz : Nat), Met l y (.code y cc nL ret :: gw) R (va_Pc (as.map (xv ad sk)) (fun U => U.heap.size = sz ∧ va_P (dC, dI) vwCl (xw ad sk ac h) U.heap ∧ va_K (dC, dI) vwCl (ab_ty ac) U ∧ va_D (fun _ => True) (xw ad sk ac h) ∧ SX sk (va_A (xw ad sk ac h) sz) U U.heap)) (Pq dC dI ac sk ad h.length (va_A (xw ad sk ac h) sz) Q) R.cells R.slots (va_A (xw ad sk ac h) sz)
theorem lv_args_map (ad sk : Nat → Nat) : ∀ (as : List Value) (i : Nat), lv_args i (as.map (xv ad sk)) = (lv_args i as).map (fun q => (q.1, xv ad sk q.2)) := by
  intro as
  induction as with
  | nil => intro i; rfl
  | cons v t ih =>
    intro i
    simp only [List.map_cons, lv_args, xv_cat, ih]
theorem lg_sl_map (ad sk : Nat → Nat) : ∀ (as : List Value), (lg_sl (as.map (xv ad sk))).length = (lg_sl as).length := by
  intro as
  induction as with
  | nil => rfl
  | cons v t ih =>
    cases v <;> simp_all [lg_sl, xv, Value.category]
set_option maxHeartbeats 4000000 in
theorem Mt.of {y : MethodName} {cc : ByteArray} {nL : Nat} {ret : Option FieldType} {R : Room} {as : List Value} {h : ab_H} {Q : Option Value → ab_H → Prop} (hy : plainName y.cls = true) (hn : (lg_sl as).length ≤ nL) (hV : Vd y.cls y.name cc nL ret R Q R.cells R.slots 0 0 0 (lv_args 0 as) [] h) : Mt y cc nL ret R as h Q := by
  intro l dC dI ac sk ad sz
  refine Met.ofW (cc := cc) (maxL := nL) (ret := ret) hy rfl ?_
  intro p e s m args below meth c s₁ B hml hv
  obtain ⟨rfl, hsz, hP, hK, hD0, hX⟩ := hv
  have hts : ∀ w ∈ gw, w.before (as.map (xv ad sk)).toArray s = true := fun w hw => atoms_spec (ws := Cond.code y cc nL ret :: gw) B.pre w (List.mem_cons_of_mem _ hw)
  subst hsz
  have hD := hD0.self (sz := s.heap.size)
  have hA : ∀ q : Nat, s.heap.size ≤ q → va_A (xw ad sk ac h) s.heap.size q := fun q h => Or.inr h
  have hS : va_S (va_A (xw ad sk ac h) s.heap.size) s.heap s.heap [] := va_S.rf
  have hl := lv_entry (as.map (xv ad sk)) (n := nL) (by rw [lg_sl_map]; exact hn)
  rw [lg_entry_eq]
  rw [lv_args_map] at hl
  have C : Cx y.cls y.name cc nL ret p s m (as.map (xv ad sk)).toArray meth c := ⟨B.exec, B.bytes, B.returns, hml, findClass_of_methodNamed B.named, hts, B.notSynchronized, (name_of_methodNamed B.named B.method).1⟩
  have hlocks := B.notSynchronized
  refine hV p l e s m _ below meth c dC dI ac sk (va_A (xw ad sk ac h) s.heap.size) ad h.length _ ⟨C, hA, hX, hK, ?_⟩ ad s.heap [] _ ⟨⟨Nat.le_refl _, fun _ _ => rfl, fun _ => rfl⟩, hP, hD, hS, hl⟩
  intro ad' H' locs' ls' v ins h' pcr hq hret hdec N
  have fin : ∀ t : State, t.heap = H' → s.WarmedH t.vm → Pq dC dI ac sk ad h.length (va_A (xw ad sk ac h) s.heap.size) Q (as.map (xv ad sk)).toArray s (.returned (v.map (xv ad' sk))) t := fun t ht _ => ⟨⟨v, h', ad', rfl, hq, N.1, by rw [ht]; exact N.2.1, N.2.2.1⟩, N.2.2.2.1.F ht⟩
  rcases hret with ⟨r1, rfl, rfl⟩ | ⟨ty, x, r1, rfl, rfl, r2⟩ | ⟨r1, x, rfl, rfl⟩ | ⟨t, x, r1, rfl, rfl⟩
  · exact W.vret B.exec B.bytes (B.returns.trans r1) fin N.2.2.2.1.2.2 hdec
  · exact W.zret B.exec B.bytes (B.returns.trans r1) r2 fin N.2.2.2.1.2.2 hdec
  · exact W.lret B.exec B.bytes (B.returns.trans r1) fin N.2.2.2.1.2.2 hdec
  · exact W.aret B.exec B.bytes (B.returns.trans r1) (Or.inl ⟨_, rfl⟩) (Or.inr ⟨_, rfl⟩) fin N.2.2.2.1.2.2 hdec
end
section

/-! CALLS: the callee's small heap lies in the caller's at the places rr -/
def rv (r : Nat → Nat) : Value → Value
  | .ref k => .ref (r k)
  | .retAddr i => .retAddr i
  | .int x => .int x
  | .long x => .long x
  | .float x => .float x
  | .double x => .double x
  | .null => .null
def rc (r : Nat → Nat) : ab_C → ab_C
  | .inl (t, n, f) => .inl (t, n, f)
  | .inr (.inl (t, l)) => .inr (.inl (t, l.map (fun o => o.map r)))
  | .inr (.inr (c, fs)) => .inr (.inr (c, fs.map (rv r)))
theorem xv_rv (ad sk r : Nat → Nat) (v : Value) : xv (fun i => ad (r i)) sk v = xv ad sk (rv r v) := by cases v <;> rfl
theorem xc_rc (ad sk r : Nat → Nat) (ac : Nat → ClassId) (c : ab_C) : xc (fun i => ad (r i)) sk ac c = xc ad sk ac (rc r c) := by
  rcases c with ⟨t, n, f⟩ | ⟨t, l⟩ | ⟨c, fs⟩
  · rfl
  · have e : (fun j => (l.getD j none).map (fun i => ad (r i))) = (fun j => ((l.map (fun o => o.map r)).getD j none).map ad) := by
      funext j
      simp only [List.getD_eq_getElem?_getD, List.getElem?_map]
      cases l[j]? with
      | none => rfl
      | some o => cases o <;> rfl
    simp only [xc, rc, List.length_map, e]
  · simp only [xc, rc, List.map_map]
    congr 2
    exact List.map_congr_left (fun v _ => xv_rv ad sk r v)
def ab_r (rr : List Nat) : Nat → Nat := fun i => rr.getD i 0
def ab_put : ab_H → List Nat → List ab_C → ab_H
  | h, [], _ => h
  | h, _ :: _, [] => h
  | h, j :: rr, c :: cs => ab_put (h.set j c) rr cs
theorem ab_put_len : ∀ (rr : List Nat) (cs : List ab_C) (h : ab_H), (ab_put h rr cs).length = h.length := by
  intro rr
  induction rr with
  | nil => intro cs h; cases cs <;> rfl
  | cons j rr ih =>
    intro cs h
    cases cs with
    | nil => rfl
    | cons c cs => rw [ab_put, ih, List.length_set]
theorem ab_put_out : ∀ (rr : List Nat) (cs : List ab_C) (h : ab_H) (q : Nat), q ∉ rr → (ab_put h rr cs)[q]? = h[q]? := by
  intro rr
  induction rr with
  | nil => intro cs h q _; cases cs <;> rfl
  | cons j rr ih =>
    intro cs h q hq
    cases cs with
    | nil => rfl
    | cons c cs =>
      rw [ab_put, ih cs _ q (fun z => hq (List.mem_cons_of_mem _ z)), List.getElem?_set_ne (fun e => hq (by rw [e]; exact List.mem_cons_self))]
theorem ab_put_in : ∀ (rr : List Nat) (cs : List ab_C) (h : ab_H) (i q : Nat), va_nd rr = true → rr.length = cs.length → rr[i]? = some q → q < h.length → (ab_put h rr cs)[q]? = cs[i]? := by
  intro rr
  induction rr with
  | nil => intro cs h i q _ _ hi; simp at hi
  | cons j rr ih =>
    intro cs h i q hn hl hi hq
    cases cs with
    | nil => simp at hl
    | cons c cs =>
      simp only [va_nd, Bool.and_eq_true, decide_eq_true_eq] at hn
      rw [ab_put]
      cases i with
      | zero =>
        have e : j = q := by simpa using hi
        subst e
        rw [ab_put_out rr cs _ j hn.1, List.getElem?_set_self hq]
        rfl
      | succ i =>
        rw [ih cs _ i q hn.2 (by simpa using hl) (by simpa using hi) (by rw [List.length_set]; exact hq)]
        rfl
section VCALL
variable {own nm : String} {cc : ByteArray} {nL : Nat} {ret : Option FieldType} {R : Room} {Q : Option Value → ab_H → Prop} {mc ms k n pc : Nat} {L : List (Nat × Value)} {st : List Value} {h : ab_H}
theorem ab_sub {ad sk : Nat → Nat} {ac : Nat → ClassId} {rr : List Nat} {hs : ab_H} (hr : rr.map (fun j => h[j]?) = hs.map (fun c => some (rc (ab_r rr) c))) : rr.map (fun i => (xw ad sk ac h)[i]?) = (xw (fun i => ad (ab_r rr i)) sk ac hs).map some := by
  apply List.ext_getElem?
  intro i
  have h1 := congrArg (fun z => z[i]?) hr
  simp only [List.getElem?_map] at h1 ⊢
  rw [xw_at]
  cases hi : rr[i]? with
  | none =>
    rw [hi] at h1
    cases hc : hs[i]? with
    | none => rfl
    | some c => rw [hc] at h1; cases h1
  | some j =>
    rw [hi] at h1
    cases hc : hs[i]? with
    | none => rw [hc] at h1; cases h1
    | some c =>
      rw [hc] at h1
      have h2 : h[j]? = some (rc (ab_r rr) c) := Option.some.inj h1
      have hj : ab_r rr i = j := by simp [ab_r, List.getD_eq_getElem?_getD, hi]
      show some ((xw ad sk ac h)[j]?) = some (some _)
      rw [xw_of h2]
      show some (some (ad j, xc ad sk ac (rc (ab_r rr) c))) = some (some (ad (ab_r rr i), xc (fun i => ad (ab_r rr i)) sk ac c))
      rw [xc_rc ad sk (ab_r rr) ac c, hj]
set_option maxHeartbeats 4000000 in
theorem ab_cont {p : Program} {l : Launch} {e : Env} {s : State} {m : MethodId} {args : Array Value} {below : List Frame} {meth : Method} {c : Code} {dC : Nat → ClassId} {dI : Nat → Nat → Nat} {ac : Nat → ClassId} {sk : Nat → Nat} {A : Nat → Prop} {ad0 : Nat → Nat} {n0 : Nat} {Qs : State → Prop}
    (E : Ev own nm cc nL ret R Q mc ms p l e s m args below meth c dC dI ac sk A ad0 n0 Qs) {ad : Nat → Nat} {H : Heap} {locs : List Loc} {ls : Array Slot} (N : Nw dC dI ac sk A ad0 n0 s nL L h ad H locs ls) (rr : List Nat) {hs : ab_H} (hr : rr.map (fun j => h[j]?) = hs.map (fun c => some (rc (ab_r rr) c))) (hnd : va_nd rr = true) {Qc : Option Value → ab_H → Prop} {a : Array Value} {st0 : List Value}
    (run : va_Run p l e R s m args below meth c H locs k n 0 0 (F0 m pc ls st0) (st.map (xv ad sk)) (Pq dC dI ac sk (fun i => ad (ab_r rr i)) hs.length (va_A (xw (fun i => ad (ab_r rr i)) sk ac hs) H.size) Qc a) (va_A (xw (fun i => ad (ab_r rr i)) sk ac hs) H.size))
    (hlen : ∀ v h', Qc v h' → h'.length = hs.length) (kk : ∀ v h', Qc v h' → Vd own nm cc nL ret R Q mc ms k n (pc + 3) L ((v.map (rv (ab_r rr))).toList ++ st) (ab_put h rr (h'.map (rc (ab_r rr))))) : W p l e R s m args below meth c H locs k n Qs (F0 m pc ls st0) := by
  have hC := ab_sub (ad := ad) (sk := sk) (ac := ac) hr
  obtain ⟨hx, hP, hD, hS, hl⟩ := N
  have hF := va_free hD hS E.2.1 rr hC
  have hll : rr.length = hs.length := by simpa using congrArg List.length hr
  intro T hT X
  obtain ⟨v, st₀, t, T', Lx, h0, X', hL, e1, e2, ⟨⟨v', h', ad', hv, hq, ⟨-, -, hy⟩, hP1, hD1⟩, hz, hk⟩, stp⟩ := run T hT X
  have hlh := hlen v' h' hq
  have had := hy hlh
  subst had
  obtain rfl : v = v'.map (xv (fun i => ad (ab_r rr i)) sk) := by cases hv; rfl
  rw [h0] at hz hk
  rw [← e1] at hP1 hz hk
  have hS' : va_S A s.heap T'.heap (locs ++ Lx) := ⟨Nat.le_trans hS.1 hz, fun q h1 h2 => by rw [hk q (Nat.lt_of_lt_of_le h1 hS.1) (fun z => h2 (hF q z))]; exact hS.2.1 q h1 h2, fun q hq => by
      rcases List.mem_append.mp hq with h | h
      · exact hS.2.2 q h
      · exact hF _ (hL q h)⟩
  have hsub : ∀ (i : Nat) (x : Nat × va_E), (xw (fun i => ad (ab_r rr i)) sk ac hs)[i]? = some x → ∃ j, rr[i]? = some j ∧ (xw ad sk ac h)[j]? = some x := by
    intro i x hi
    have h1 := congrArg (fun z => z[i]?) hC
    simp only [List.getElem?_map] at h1
    rw [hi] at h1
    cases hj : rr[i]? with
    | none => rw [hj] at h1; cases h1
    | some j =>
      rw [hj] at h1
      exact ⟨j, rfl, Option.some.inj h1⟩
  have hin : ∀ (i j : Nat), rr[i]? = some j → j < h.length := by
    intro i j hi
    have h1 := congrArg (fun z => z[i]?) hr
    simp only [List.getElem?_map] at h1
    rw [hi] at h1
    cases hc : hs[i]? with
    | none => rw [hc] at h1; cases h1
    | some c =>
      rw [hc] at h1
      exact (List.getElem?_eq_some_iff.mp (Option.some.inj h1)).1
  have hlp : (ab_put h rr (h'.map (rc (ab_r rr)))).length = h.length := ab_put_len _ _ _
  have hP2 : va_P (dC, dI) vwCl (xw ad sk ac (ab_put h rr (h'.map (rc (ab_r rr))))) T'.heap := by
    intro q x hx2
    rw [xw_at] at hx2
    by_cases hqr : q ∈ rr
    · obtain ⟨i, hi⟩ := List.getElem?_of_mem hqr
      rw [ab_put_in rr _ h i q hnd (by rw [List.length_map, hlh, hll]) hi (hin i q hi), List.getElem?_map] at hx2
      cases hc : h'[i]? with
      | none => rw [hc] at hx2; cases hx2
      | some c =>
        rw [hc] at hx2
        have e : x = (ad q, xc ad sk ac (rc (ab_r rr) c)) := (Option.some.inj hx2).symm
        rw [e, ← xc_rc]
        have hj : ab_r rr i = q := by simp [ab_r, List.getD_eq_getElem?_getD, hi]
        have h2 := hP1 i _ (xw_of hc)
        rw [hj] at h2
        exact h2
    · rw [ab_put_out rr _ h q hqr] at hx2
      have h3 : (xw ad sk ac h)[q]? = some x := by rw [xw_at]; exact hx2
      have hlt := (hP q x h3).lt
      refine (hP q x h3).kept (hk x.1 hlt (fun z => ?_))
      rcases z with ⟨i, e, hi⟩ | z
      · obtain ⟨j, h4, h5⟩ := hsub i _ hi
        have := hD.1 q j _ _ h3 h5 rfl
        subst this
        exact hqr (List.mem_of_getElem? h4)
      · omega
  have hD2 : va_D A (xw ad sk ac (ab_put h rr (h'.map (rc (ab_r rr))))) := by
    have key : ∀ (q : Nat) (x : Nat × va_E), (xw ad sk ac (ab_put h rr (h'.map (rc (ab_r rr)))))[q]? = some x → ∃ y, (xw ad sk ac h)[q]? = some y ∧ y.1 = x.1 := by
      intro q x hx2
      have hlt : q < h.length := by
        have := (List.getElem?_eq_some_iff.mp hx2).1
        simpa [xw, hlp] using this
      refine ⟨_, xw_of (List.getElem?_eq_getElem hlt), ?_⟩
      rw [xw_at] at hx2
      cases hc : (ab_put h rr (h'.map (rc (ab_r rr))))[q]? with
      | none => rw [hc] at hx2; cases hx2
      | some c => rw [hc] at hx2; rw [← Option.some.inj hx2]
    refine ⟨fun i j x y hi hj hxy => ?_, fun q x hx2 => ?_⟩
    · obtain ⟨x0, a1, a2⟩ := key i x hi
      obtain ⟨y0, b1, b2⟩ := key j y hj
      exact hD.1 i j x0 y0 a1 b1 (a2.trans (hxy.trans b2.symm))
    · obtain ⟨x0, a1, a2⟩ := key q x hx2
      rw [← a2]
      exact hD.2 q x0 a1
  have w := kk v' h' hq p l e s m args below meth c dC dI ac sk A ad0 n0 Qs E ad T'.heap (locs ++ Lx) ls ⟨⟨by rw [hlp]; exact hx.1, hx.2.1, by rw [hlp]; exact hx.2.2⟩, hP2, hD2, hS', hl⟩
  obtain ⟨t2, a1, b1⟩ := w T' rfl X'
  refine ⟨t2, stp t2 ?_, b1⟩
  have e9 : (v'.map (xv (fun i => ad (ab_r rr i)) sk)).toList ++ st.map (xv ad sk) = ((v'.map (rv (ab_r rr))).toList ++ st).map (xv ad sk) := by
    cases v' with
    | none => rfl
    | some v' => simp [xv_rv]
  show Steps p.tables e below (T'.setTop { F0 m pc ls st0 with pc := pc + 3, stack := (v'.map (xv (fun i => ad (ab_r rr i)) sk)).toList ++ st.map (xv ad sk) }) t2
  rw [e9]
  exact a1
/-- an instance method that a link names -/
def MV (own : String) (idx : Nat) (y : MethodName) (cc : ByteArray) (nL : Nat) (ret : Option FieldType) (np : Nat) : Prop :=
  Cond.methodLink own idx y ∈ gw ∧ Cond.instanceMethod y ∈ gw ∧ Cond.selects y.cls y y ∈ gw ∧ Cond.initialized y.cls ∈ gw ∧ Cond.code y cc nL ret ∈ gw ∧ (y.cls ≠ "java/lang/invoke/MethodHandle" ∧ y.cls ≠ "java/lang/invoke/VarHandle" ∧ (parseMethodDescriptor y.desc).map (fun d => d.parameters.length) = some np)
def MS (own : String) (idx : Nat) (y : MethodName) (cc : ByteArray) (nL : Nat) (ret : Option FieldType) (np : Nat) : Prop :=
  Cond.methodLink own idx y ∈ gw ∧ Cond.static y ∈ gw ∧ Cond.initialized y.cls ∈ gw ∧ Cond.code y cc nL ret ∈ gw ∧ (y.cls ≠ "java/lang/invoke/MethodHandle" ∧ y.cls ≠ "java/lang/invoke/VarHandle" ∧ (parseMethodDescriptor y.desc).map (fun d => d.parameters.length) = some np)
def MN (own : String) (idx : Nat) (y : MethodName) (host : String) (cc : ByteArray) (nL : Nat) (ret : Option FieldType) (np : Nat) : Prop :=
  Cond.methodLinkNest own idx y host ∈ lw_tbl ∧ Cond.static y ∈ gw ∧ Cond.initialized y.cls ∈ gw ∧ Cond.code y cc nL ret ∈ gw ∧ (y.cls ≠ "java/lang/invoke/MethodHandle" ∧ y.cls ≠ "java/lang/invoke/VarHandle" ∧ (parseMethodDescriptor y.desc).map (fun d => d.parameters.length) = some np)
theorem gw_code {y : MethodName} {cc : ByteArray} {nL : Nat} {ret : Option FieldType} (h : Cond.code y cc nL ret ∈ gw) : GoodIn gw (Cond.code y cc nL ret :: gw) := fun w hw => by
  rcases List.mem_cons.mp hw with rfl | hw
  · exact gw_all _ h
  · exact gw_all _ hw
theorem Mt.blind {dC : Nat → ClassId} {dI : Nat → Nat → Nat} {ac : Nat → ClassId} {sk ad : Nat → Nat} {as : List Value} {hs : ab_H} {sz : Nat} : FrameBlind (va_Pc (as.map (xv ad sk)) (fun U => U.heap.size = sz ∧ va_P (dC, dI) vwCl (xw ad sk ac hs) U.heap ∧ va_K (dC, dI) vwCl (ab_ty ac) U ∧ va_D (fun _ => True) (xw ad sk ac hs) ∧ SX sk (va_A (xw ad sk ac hs) sz) U U.heap)) := fun a U g mk q => by
  obtain ⟨q0, q1, qP, qK, qD, qX⟩ := q
  exact ⟨q0, q1, qP, va_K.moved (u := U) (U := U.calling g mk a) (Vm.Alike.refl U.vm) qK, qD, SX.same (u := U) (U := U.calling g mk a) rfl qX⟩
theorem Mt.pre {p : Program} {l : Launch} {e : Env} {s : State} {m : MethodId} {args : Array Value} {below : List Frame} {meth : Method} {c : Code} {dC : Nat → ClassId} {dI : Nat → Nat → Nat} {ac : Nat → ClassId} {sk : Nat → Nat} {A : Nat → Prop} {ad0 : Nat → Nat} {n0 : Nat} {Qs : State → Prop}
    (E : Ev own nm cc nL ret R Q mc ms p l e s m args below meth c dC dI ac sk A ad0 n0 Qs) {ad : Nat → Nat} {H : Heap} {locs : List Loc} {ls : Array Slot} (N : Nw dC dI ac sk A ad0 n0 s nL L h ad H locs ls) (rr : List Nat) {hs : ab_H} (hr : rr.map (fun j => h[j]?) = hs.map (fun c => some (rc (ab_r rr) c))) (hnd : va_nd rr = true) {as As : List Value} (ha : as.map (rv (ab_r rr)) = As) :
    ∀ U : State, U.heap = H → s.WarmedH U.vm → va_Pc (as.map (xv (fun i => ad (ab_r rr i)) sk)) (fun U => U.heap.size = H.size ∧ va_P (dC, dI) vwCl (xw (fun i => ad (ab_r rr i)) sk ac hs) U.heap ∧ va_K (dC, dI) vwCl (ab_ty ac) U ∧ va_D (fun _ => True) (xw (fun i => ad (ab_r rr i)) sk ac hs) ∧ SX sk (va_A (xw (fun i => ad (ab_r rr i)) sk ac hs) H.size) U U.heap) (As.map (xv ad sk)).toArray U := by
  intro U hU hW
  have hC := ab_sub (ad := ad) (sk := sk) (ac := ac) hr
  have hC2 : rr.filterMap (fun i => (xw ad sk ac h)[i]?) = xw (fun i => ad (ab_r rr i)) sk ac hs := by
    have h1 : (rr.map (fun i => (xw ad sk ac h)[i]?)).filterMap id = ((xw (fun i => ad (ab_r rr i)) sk ac hs).map some).filterMap id := by rw [hC]
    simpa [List.filterMap_map] using h1
  have hP := N.2.1.sub rr hC2
  have hD := N.2.2.1.sub rr hnd hC
  have hF := va_free N.2.2.1 N.2.2.2.1 E.2.1 rr hC
  refine ⟨?_, by rw [hU], by rw [hU]; exact hP, va_K.moved hW.alike E.2.2.2.1, hD.weaken (fun _ _ _ _ => trivial), SX.move E.2.2.1 N.2.2.2.1 hW hU hF⟩
  rw [← ha, List.map_map]
  congr 1
  exact List.map_congr_left (fun v _ => (xv_rv ad sk (ab_r rr) v).symm)
variable {y : MethodName} {cy : ByteArray} {nLy : Nat} {rety : Option FieldType} {Ry : Room} {as : List Value} {hs : ab_H} {Qc : Option Value → ab_H → Prop}
set_option maxHeartbeats 4000000 in
theorem v_invV {idx np b ci : Nat} {As : List Value} {fs : List Value} {stk : List Value} (rr : List Nat) (hd : decode cc pc = .ok (.invokevirtual idx, 3)) (f : MV own idx y cy nLy rety np) (hM : Mt y cy nLy rety Ry as hs Qc) (hr : rr.map (fun j => h[j]?) = hs.map (fun c => some (rc (ab_r rr) c))) (hnd : va_nd rr = true) (ha : as.map (rv (ab_r rr)) = .ref b :: As) (hstk : stk = As.reverse ++ .ref b :: st) (hnp : As.length = np) (hb : h[b]? = some (aO ci fs)) (hci : (vwCl[ci]?).map (fun q => q.1) = some y.cls) (hcat : (st.map fun v => v.category).sum ≤ 8) (hR0 : Ry.cells = 0 ∧ Ry.slots = 0) (hR : Ry.frames + 1 ≤ R.frames ∧ 8 + (nLy + 11) + Ry.locals ≤ R.locals) (hk : k ≤ R.cells ∧ n ≤ R.slots) (hlen : ∀ v h', Qc v h' → h'.length = hs.length) (kk : ∀ v h', Qc v h' → Vd own nm cc nL ret R Q mc ms k n (pc + 3) L ((v.map (rv (ab_r rr))).toList ++ st) (ab_put h rr (h'.map (rc (ab_r rr))))) : Vd own nm cc nL ret R Q mc ms k n pc L stk h := by
  intro p l e s m args below meth c dC dI ac sk A ad0 n0 Qs E ad H locs ls N
  obtain ⟨f1, f2, f3, f4, f5, f6⟩ := f
  have hM := hM l dC dI ac sk (fun i => ad (ab_r rr i)) H.size
  rw [hR0.1, hR0.2] at hM
  obtain ⟨q, hq1, hq2⟩ : ∃ q, vwCl[ci]? = some q ∧ q.1 = y.cls := by
    cases hc : vwCl[ci]? with
    | none => rw [hc] at hci; cases hci
    | some q => rw [hc] at hci; exact ⟨q, rfl, Option.some.inj hci⟩
  have hg : GoodIn gw (wsV own idx y.cls y (Cond.code y cy nLy rety :: gw)) := fun w hw => by
    rcases List.mem_append.mp hw with hw | hw
    · simp only [List.mem_cons, List.not_mem_nil, or_false] at hw
      rcases hw with rfl | rfl | rfl | rfl
      · exact gw_all _ f1
      · exact gw_all _ f2
      · exact gw_all _ f3
      · exact gw_all _ f4
    · exact gw_code f5 w hw
  have hpre := Mt.pre E N rr hr hnd ha
  subst hstk
  refine ab_cont E N rr hr hnd (va_runV (As := As.map (xv ad sk)) (rest := st.map (xv ad sk)) (b := ad b) ⟨E.1.1, E.1.2.1, E.1.2.2.2.1, E.1.2.2.2.2.1, E.1.2.2.2.2.2.1⟩ hM (cwV np E.1.2.2.2.2.2.1 hg rfl hR0.1 hR0.2 ⟨rfl, f6.1, f6.2.1, f6.2.2⟩ hR) ⟨Mt.blind, ?_, hpre⟩ rfl (by rw [List.length_map]; exact hnp) N.2.2.2.2.1 (by show List.map _ _ = _; simp [xv]) (lv_room (by rw [xv_cats]; exact hcat)) hd ⟨hk.1, hk.2⟩) hlen kk
  rw [← hq2]
  exact va_recv E.2.2.2.1 N.2.1 hq1 (xw_of hb)
set_option maxHeartbeats 4000000 in
theorem v_invS {idx np : Nat} {As : List Value} {stk : List Value} (rr : List Nat) (hd : decode cc pc = .ok (.invokestatic idx, 3)) (f : MS own idx y cy nLy rety np) (hM : Mt y cy nLy rety Ry as hs Qc) (hr : rr.map (fun j => h[j]?) = hs.map (fun c => some (rc (ab_r rr) c))) (hnd : va_nd rr = true) (ha : as.map (rv (ab_r rr)) = As) (hstk : stk = As.reverse ++ st) (hnp : As.length = np) (hcat : (st.map fun v => v.category).sum ≤ 8) (hR0 : Ry.cells = 0 ∧ Ry.slots = 0) (hR : Ry.frames + 1 ≤ R.frames ∧ 8 + (nLy + 11) + Ry.locals ≤ R.locals) (hk : k ≤ R.cells ∧ n ≤ R.slots) (hlen : ∀ v h', Qc v h' → h'.length = hs.length) (kk : ∀ v h', Qc v h' → Vd own nm cc nL ret R Q mc ms k n (pc + 3) L ((v.map (rv (ab_r rr))).toList ++ st) (ab_put h rr (h'.map (rc (ab_r rr))))) : Vd own nm cc nL ret R Q mc ms k n pc L stk h := by
  intro p l e s m args below meth c dC dI ac sk A ad0 n0 Qs E ad H locs ls N
  obtain ⟨f1, f2, f4, f5, f6⟩ := f
  have hM := hM l dC dI ac sk (fun i => ad (ab_r rr i)) H.size
  rw [hR0.1, hR0.2] at hM
  have hg : GoodIn gw (va_wsS own idx y (Cond.code y cy nLy rety :: gw)) := fun w hw => by
    rcases List.mem_append.mp hw with hw | hw
    · simp only [List.mem_cons, List.not_mem_nil, or_false] at hw
      rcases hw with rfl | rfl | rfl
      · exact gw_all _ f1
      · exact gw_all _ f2
      · exact gw_all _ f4
    · exact gw_code f5 w hw
  have hpre := Mt.pre E N rr hr hnd ha
  subst hstk
  exact ab_cont E N rr hr hnd (va_runS (As := As.map (xv ad sk)) (rest := st.map (xv ad sk)) ⟨E.1.1, E.1.2.1, E.1.2.2.2.1, E.1.2.2.2.2.1, E.1.2.2.2.2.2.1⟩ hM (va_cwS np E.1.2.2.2.2.2.1 hg rfl hR0.1 hR0.2 f6 hR) ⟨Mt.blind, hpre⟩ rfl (by rw [List.length_map]; exact hnp) N.2.2.2.2.1 (by show List.map _ _ = _; simp) (lv_room (by rw [xv_cats]; exact hcat)) hd ⟨hk.1, hk.2⟩) hlen kk
set_option maxHeartbeats 4000000 in
theorem v_invN {idx np : Nat} {host : String} {As : List Value} {stk : List Value} (rr : List Nat) (hd : decode cc pc = .ok (.invokestatic idx, 3)) (f : MN own idx y host cy nLy rety np) (hM : Mt y cy nLy rety Ry as hs Qc) (hr : rr.map (fun j => h[j]?) = hs.map (fun c => some (rc (ab_r rr) c))) (hnd : va_nd rr = true) (ha : as.map (rv (ab_r rr)) = As) (hstk : stk = As.reverse ++ st) (hnp : As.length = np) (hcat : (st.map fun v => v.category).sum ≤ 8) (hR0 : Ry.cells = 0 ∧ Ry.slots = 0) (hR : Ry.frames + 1 ≤ R.frames ∧ 8 + (nLy + 11) + Ry.locals ≤ R.locals) (hk : k ≤ R.cells ∧ n ≤ R.slots) (hlen : ∀ v h', Qc v h' → h'.length = hs.length) (kk : ∀ v h', Qc v h' → Vd own nm cc nL ret R Q mc ms k n (pc + 3) L ((v.map (rv (ab_r rr))).toList ++ st) (ab_put h rr (h'.map (rc (ab_r rr))))) : Vd own nm cc nL ret R Q mc ms k n pc L stk h := by
  intro p l e s m args below meth c dC dI ac sk A ad0 n0 Qs E ad H locs ls N
  obtain ⟨f1, f2, f4, f5, f6⟩ := f
  have hM := hM l dC dI ac sk (fun i => ad (ab_r rr i)) H.size
  rw [hR0.1, hR0.2] at hM
  have hpre := Mt.pre E N rr hr hnd ha
  subst hstk
  exact ab_cont E N rr hr hnd (va_runSN (As := As.map (xv ad sk)) (rest := st.map (xv ad sk)) (host := host) ⟨E.1.1, E.1.2.1, E.1.2.2.2.1, E.1.2.2.2.2.1, E.1.2.2.2.2.2.1⟩ hM ⟨va_cnB np E.1.2.2.2.2.2.1 (gw_code f5) rfl hR0.1 hR0.2 (E.2.2.1.1 _ f1 rfl) (E.1.2.2.2.2.2.1 _ f4) f6 hR, E.1.2.2.2.2.2.1 _ f2, trivial⟩ ⟨Mt.blind, hpre⟩ rfl (by rw [List.length_map]; exact hnp) N.2.2.2.2.1 (by show List.map _ _ = _; simp) (lv_room (by rw [xv_cats]; exact hcat)) hd ⟨hk.1, hk.2⟩) hlen kk
end VCALL
end
section
theorem tq1 {w : Cond} (i : Nat) (h : tables_1_1[i]? = some w) : w ∈ lw_tbl := List.mem_append_right _ (List.mem_append_left _ (List.mem_of_getElem? h))
theorem tw1 {w : Cond} (i : Nat) (h : tables_1_1[i]? = some w) (g : goodWord w = true) : w ∈ gw := gw_in (tq1 i h) g
theorem tq2 {w : Cond} (i : Nat) (h : tables_1_2[i]? = some w) : w ∈ lw_tbl := List.mem_append_right _ (List.mem_append_right _ (List.mem_append_left _ (List.mem_of_getElem? h)))
theorem tw2 {w : Cond} (i : Nat) (h : tables_1_2[i]? = some w) (g : goodWord w = true) : w ∈ gw := gw_in (tq2 i h) g
theorem tq3 {w : Cond} (i : Nat) (h : tables_1_3[i]? = some w) : w ∈ lw_tbl := List.mem_append_right _ (List.mem_append_right _ (List.mem_append_right _ (List.mem_append_left _ (List.mem_of_getElem? h))))
theorem tw3 {w : Cond} (i : Nat) (h : tables_1_3[i]? = some w) (g : goodWord w = true) : w ∈ gw := gw_in (tq3 i h) g
theorem tq4 {w : Cond} (i : Nat) (h : tables_1_4[i]? = some w) : w ∈ lw_tbl := List.mem_append_right _ (List.mem_append_right _ (List.mem_append_right _ (List.mem_append_right _ (List.mem_append_left _ (List.mem_of_getElem? h)))))
theorem tw4 {w : Cond} (i : Nat) (h : tables_1_4[i]? = some w) (g : goodWord w = true) : w ∈ gw := gw_in (tq4 i h) g
theorem tq5 {w : Cond} (i : Nat) (h : tables_1_5[i]? = some w) : w ∈ lw_tbl := List.mem_append_right _ (List.mem_append_right _ (List.mem_append_right _ (List.mem_append_right _ (List.mem_append_right _ (List.mem_of_getElem? h)))))
theorem tw5 {w : Cond} (i : Nat) (h : tables_1_5[i]? = some w) (g : goodWord w = true) : w ∈ gw := gw_in (tq5 i h) g
theorem tw0 {w : Cond} (i : Nat) (h : (k2_sels lw_privs)[i]? = some w) (g : goodWord w = true) : w ∈ gw := gw_in (List.mem_append_left _ (List.mem_of_getElem? h)) g
theorem inw_X0 : ∀ w ∈ u_ws RX0 TX0 12, w ∈ gw := by
  rw [show u_ws RX0 TX0 12 = [Cond.laysFinal RX0 "FireLeave$City" "kind" "[I", Cond.laysFinal RX0 "FireLeave$City" "worth" "[I", Cond.laysFinal RX0 "FireLeave$City" "lost" "[I", Cond.laysFinal RX0 "FireLeave$City" "burntOf" "[I", Cond.lays RX0 "FireLeave$City" "houses" "I", Cond.lays RX0 "FireLeave$City" "at" "I", Cond.lays RX0 "FireLeave$City" "hunger" "I", Cond.lays RX0 "FireLeave$City" "temper" "I", Cond.lays RX0 "FireLeave$City" "rainBits" "I", Cond.lays RX0 "FireLeave$City" "night" "I", Cond.lays RX0 "FireLeave$City" "burnt" "I", Cond.lays RX0 "FireLeave$City" "given" "I"] from rfl]
  simp only [List.forall_mem_cons]
  exact ⟨(tw1 89 rfl rfl), (tw1 91 rfl rfl), (tw1 93 rfl rfl), (tw1 95 rfl rfl), (tw1 97 rfl rfl), (tw1 99 rfl rfl), (tw1 101 rfl rfl), (tw1 103 rfl rfl), (tw1 105 rfl rfl), (tw1 107 rfl rfl), (tw1 109 rfl rfl), (tw1 111 rfl rfl), fun _ h => absurd h List.not_mem_nil⟩
theorem inw_X1 : ∀ w ∈ u_ws RX1 TX1 3, w ∈ gw := by
  rw [show u_ws RX1 TX1 3 = [Cond.laysFinal RX1 "FireLeave$Image" "city" "LFireLeave$City;", Cond.laysFinal RX1 "FireLeave$Image" "seen" "LFireLeave$Sightings;", Cond.lays RX1 "FireLeave$Image" "there" "Z"] from rfl]
  simp only [List.forall_mem_cons]
  exact ⟨(tw1 186 rfl rfl), (tw1 188 rfl rfl), (tw1 190 rfl rfl), fun _ h => absurd h List.not_mem_nil⟩
theorem inw_X2 : ∀ w ∈ u_ws RX2 TX2 4, w ∈ gw := by
  rw [show u_ws RX2 TX2 4 = [Cond.laysFinal RX2 "FireLeave$Sheet" "cells" "[I", Cond.lays RX2 "FireLeave$Sheet" "there" "Z", Cond.lays RX2 "FireLeave$Sheet" "lane" "I", Cond.lays RX2 "FireLeave$Sheet" "size" "I"] from rfl]
  simp only [List.forall_mem_cons]
  exact ⟨(tw1 207 rfl rfl), (tw1 209 rfl rfl), (tw1 211 rfl rfl), (tw1 213 rfl rfl), fun _ h => absurd h List.not_mem_nil⟩
theorem inw_X3 : ∀ w ∈ u_ws RX3 TX3 4, w ∈ gw := by
  rw [show u_ws RX3 TX3 4 = [Cond.laysFinal RX3 "FireLeave$Sightings" "where" "[I", Cond.laysFinal RX3 "FireLeave$Sightings" "nights" "[I", Cond.laysFinal RX3 "FireLeave$Sightings" "worth" "[I", Cond.lays RX3 "FireLeave$Sightings" "size" "I"] from rfl]
  simp only [List.forall_mem_cons]
  exact ⟨(tw1 161 rfl rfl), (tw1 163 rfl rfl), (tw1 165 rfl rfl), (tw1 167 rfl rfl), fun _ h => absurd h List.not_mem_nil⟩
theorem inw_X4 : ∀ w ∈ u_ws RX4 TX4 4, w ∈ gw := by
  rw [show u_ws RX4 TX4 4 = [Cond.laysFinal RX4 "FireLeave$Tape" "bytes" "[B", Cond.lays RX4 "FireLeave$Tape" "next" "I", Cond.lays RX4 "FireLeave$Tape" "length" "I", Cond.lays RX4 "FireLeave$Tape" "start" "I"] from rfl]
  simp only [List.forall_mem_cons]
  exact ⟨(tw1 44 rfl rfl), (tw1 46 rfl rfl), (tw1 48 rfl rfl), (tw1 50 rfl rfl), fun _ h => absurd h List.not_mem_nil⟩
theorem inw_X5 : ∀ w ∈ u_ws RX5 TX5 9, w ∈ gw := by
  rw [show u_ws RX5 TX5 9 = [Cond.laysFinal RX5 "FireLeave$TextReader" "tape" "LFireLeave$Tape;", Cond.laysFinal RX5 "FireLeave$TextReader" "told" "LFireLeave$City;", Cond.laysFinal RX5 "FireLeave$TextReader" "offerHouse" "[I", Cond.laysFinal RX5 "FireLeave$TextReader" "offerMuch" "[I", Cond.lays RX5 "FireLeave$TextReader" "offers" "I", Cond.lays RX5 "FireLeave$TextReader" "fireTold" "Z", Cond.lays RX5 "FireLeave$TextReader" "lines" "I", Cond.lays RX5 "FireLeave$TextReader" "fault" "I", Cond.lays RX5 "FireLeave$TextReader" "faultPlace" "I"] from rfl]
  simp only [List.forall_mem_cons]
  exact ⟨(tw1 129 rfl rfl), (tw1 131 rfl rfl), (tw1 133 rfl rfl), (tw1 135 rfl rfl), (tw1 137 rfl rfl), (tw1 139 rfl rfl), (tw1 141 rfl rfl), (tw1 143 rfl rfl), (tw1 145 rfl rfl), fun _ h => absurd h List.not_mem_nil⟩
theorem inw_X6 : ∀ w ∈ u_ws RX6 TX6 10, w ∈ gw := by
  rw [show u_ws RX6 TX6 10 = [Cond.laysFinal RX6 "FireLeave" "reader" "LFireLeave$TextReader;", Cond.laysFinal RX6 "FireLeave" "now" "LFireLeave$City;", Cond.laysFinal RX6 "FireLeave" "trial" "LFireLeave$City;", Cond.laysFinal RX6 "FireLeave" "seen" "LFireLeave$Sightings;", Cond.laysFinal RX6 "FireLeave" "images" "[LFireLeave$Image;", Cond.laysFinal RX6 "FireLeave" "sheets" "[LFireLeave$Sheet;", Cond.laysFinal RX6 "FireLeave" "left" "[I", Cond.laysFinal RX6 "FireLeave" "tally" "[I", Cond.lays RX6 "FireLeave" "latestFault" "I", Cond.lays RX6 "FireLeave" "latestTear" "I"] from rfl]
  simp only [List.forall_mem_cons]
  exact ⟨(tw1 226 rfl rfl), (tw1 228 rfl rfl), (tw1 230 rfl rfl), (tw1 232 rfl rfl), (tw1 234 rfl rfl), (tw1 236 rfl rfl), (tw1 238 rfl rfl), (tw2 0 rfl rfl), (tw2 2 rfl rfl), (tw2 4 rfl rfl), fun _ h => absurd h List.not_mem_nil⟩
theorem inw_X7 : ∀ w ∈ u_ws RX7 TX7 28, w ∈ gw := by
  rw [show u_ws RX7 TX7 28 = [Cond.laysFinal RX7 "FireLeaveModel" "st" "[I", Cond.laysFinal RX7 "FireLeaveModel" "now" "[I", Cond.laysFinal RX7 "FireLeaveModel" "isKept" "[Z", Cond.lays RX7 "FireLeaveModel" "houses" "I", Cond.laysFinal RX7 "FireLeaveModel" "draft" "[I", Cond.lays RX7 "FireLeaveModel" "dHouses" "I", Cond.lays RX7 "FireLeaveModel" "hasFire" "Z", Cond.lays RX7 "FireLeaveModel" "offerMany" "I", Cond.laysFinal RX7 "FireLeaveModel" "offered" "[I", Cond.lays RX7 "FireLeaveModel" "highest" "I", Cond.laysFinal RX7 "FireLeaveModel" "tape" "[I", Cond.lays RX7 "FireLeaveModel" "taped" "I", Cond.lays RX7 "FireLeaveModel" "pos" "I", Cond.lays RX7 "FireLeaveModel" "from" "I", Cond.lays RX7 "FireLeaveModel" "sort" "I", Cond.lays RX7 "FireLeaveModel" "value" "I", Cond.lays RX7 "FireLeaveModel" "fault" "I", Cond.lays RX7 "FireLeaveModel" "wrongAt" "I", Cond.lays RX7 "FireLeaveModel" "safeSum" "J", Cond.lays RX7 "FireLeaveModel" "lossSum" "J", Cond.lays RX7 "FireLeaveModel" "allWays" "J", Cond.laysFinal RX7 "FireLeaveModel" "left" "[I", Cond.laysFinal RX7 "FireLeaveModel" "ways" "[I", Cond.laysFinal RX7 "FireLeaveModel" "lanes" "[I", Cond.laysFinal RX7 "FireLeaveModel" "sizes" "[I", Cond.laysFinal RX7 "FireLeaveModel" "cells" "[I", Cond.lays RX7 "FireLeaveModel" "torn" "I", Cond.laysFinal RX7 "FireLeaveModel" "had" "[I"] from rfl]
  simp only [List.forall_mem_cons]
  exact ⟨(tw4 47 rfl rfl), (tw4 49 rfl rfl), (tw4 51 rfl rfl), (tw4 53 rfl rfl), (tw4 55 rfl rfl), (tw4 57 rfl rfl), (tw4 59 rfl rfl), (tw4 61 rfl rfl), (tw4 63 rfl rfl), (tw4 65 rfl rfl), (tw4 67 rfl rfl), (tw4 69 rfl rfl), (tw4 71 rfl rfl), (tw4 73 rfl rfl), (tw4 75 rfl rfl), (tw4 77 rfl rfl), (tw4 79 rfl rfl), (tw4 81 rfl rfl), (tw4 83 rfl rfl), (tw4 85 rfl rfl), (tw4 87 rfl rfl), (tw4 89 rfl rfl), (tw4 91 rfl rfl), (tw4 93 rfl rfl), (tw4 95 rfl rfl), (tw4 97 rfl rfl), (tw4 99 rfl rfl), (tw4 101 rfl rfl), fun _ h => absurd h List.not_mem_nil⟩
theorem fl_X4_9 : FL RX4 9 4 0 (.array .byte) true := ⟨RX4, TX4, 4, tyX4, rfl, inw_X4, by decide, (tw1 37 rfl rfl), rfl, rfl, tyX4_ok 0 (by decide), tyX4_ok, nmX4⟩
theorem fl_X4_19 : FL RX4 19 4 1 .int false := ⟨RX4, TX4, 4, tyX4, rfl, inw_X4, by decide, (tw1 38 rfl rfl), rfl, rfl, tyX4_ok 1 (by decide), tyX4_ok, nmX4⟩
theorem fl_X4_15 : FL RX4 15 4 2 .int false := ⟨RX4, TX4, 4, tyX4, rfl, inw_X4, by decide, (tw1 39 rfl rfl), rfl, rfl, tyX4_ok 2 (by decide), tyX4_ok, nmX4⟩
theorem fl_X6_68 : FL RX6 68 4 2 .int false := ⟨RX4, TX4, 4, tyX4, rfl, inw_X4, by decide, (tw1 40 rfl rfl), rfl, rfl, tyX4_ok 2 (by decide), tyX4_ok, nmX4⟩
theorem fl_X5_148 : FL RX5 148 4 2 .int false := ⟨RX4, TX4, 4, tyX4, rfl, inw_X4, by decide, (tw1 41 rfl rfl), rfl, rfl, tyX4_ok 2 (by decide), tyX4_ok, nmX4⟩
theorem fl_X4_22 : FL RX4 22 4 3 .int false := ⟨RX4, TX4, 4, tyX4, rfl, inw_X4, by decide, (tw1 42 rfl rfl), rfl, rfl, tyX4_ok 3 (by decide), tyX4_ok, nmX4⟩
theorem fl_X5_69 : FL RX5 69 4 3 .int false := ⟨RX4, TX4, 4, tyX4, rfl, inw_X4, by decide, (tw1 43 rfl rfl), rfl, rfl, tyX4_ok 3 (by decide), tyX4_ok, nmX4⟩
theorem fl_X0_9 : FL RX0 9 0 0 (.array .int) true := ⟨RX0, TX0, 12, tyX0, rfl, inw_X0, by decide, (tw1 60 rfl rfl), rfl, rfl, tyX0_ok 0 (by decide), tyX0_ok, nmX0⟩
theorem fl_X6_132 : FL RX6 132 0 0 (.array .int) true := ⟨RX0, TX0, 12, tyX0, rfl, inw_X0, by decide, (tw1 61 rfl rfl), rfl, rfl, tyX0_ok 0 (by decide), tyX0_ok, nmX0⟩
theorem fl_X0_15 : FL RX0 15 0 1 (.array .int) true := ⟨RX0, TX0, 12, tyX0, rfl, inw_X0, by decide, (tw1 62 rfl rfl), rfl, rfl, tyX0_ok 1 (by decide), tyX0_ok, nmX0⟩
theorem fl_X6_135 : FL RX6 135 0 1 (.array .int) true := ⟨RX0, TX0, 12, tyX0, rfl, inw_X0, by decide, (tw1 63 rfl rfl), rfl, rfl, tyX0_ok 1 (by decide), tyX0_ok, nmX0⟩
theorem fl_X0_18 : FL RX0 18 0 2 (.array .int) true := ⟨RX0, TX0, 12, tyX0, rfl, inw_X0, by decide, (tw1 64 rfl rfl), rfl, rfl, tyX0_ok 2 (by decide), tyX0_ok, nmX0⟩
theorem fl_X6_138 : FL RX6 138 0 2 (.array .int) true := ⟨RX0, TX0, 12, tyX0, rfl, inw_X0, by decide, (tw1 65 rfl rfl), rfl, rfl, tyX0_ok 2 (by decide), tyX0_ok, nmX0⟩
theorem fl_X0_21 : FL RX0 21 0 3 (.array .int) true := ⟨RX0, TX0, 12, tyX0, rfl, inw_X0, by decide, (tw1 66 rfl rfl), rfl, rfl, tyX0_ok 3 (by decide), tyX0_ok, nmX0⟩
theorem fl_X6_180 : FL RX6 180 0 3 (.array .int) true := ⟨RX0, TX0, 12, tyX0, rfl, inw_X0, by decide, (tw1 67 rfl rfl), rfl, rfl, tyX0_ok 3 (by decide), tyX0_ok, nmX0⟩
theorem fl_X0_28 : FL RX0 28 0 4 .int false := ⟨RX0, TX0, 12, tyX0, rfl, inw_X0, by decide, (tw1 68 rfl rfl), rfl, rfl, tyX0_ok 4 (by decide), tyX0_ok, nmX0⟩
theorem fl_X6_101 : FL RX6 101 0 4 .int false := ⟨RX0, TX0, 12, tyX0, rfl, inw_X0, by decide, (tw1 69 rfl rfl), rfl, rfl, tyX0_ok 4 (by decide), tyX0_ok, nmX0⟩
theorem fl_X5_122 : FL RX5 122 0 4 .int false := ⟨RX0, TX0, 12, tyX0, rfl, inw_X0, by decide, (tw1 70 rfl rfl), rfl, rfl, tyX0_ok 4 (by decide), tyX0_ok, nmX0⟩
theorem fl_X0_31 : FL RX0 31 0 5 .int false := ⟨RX0, TX0, 12, tyX0, rfl, inw_X0, by decide, (tw1 71 rfl rfl), rfl, rfl, tyX0_ok 5 (by decide), tyX0_ok, nmX0⟩
theorem fl_X6_104 : FL RX6 104 0 5 .int false := ⟨RX0, TX0, 12, tyX0, rfl, inw_X0, by decide, (tw1 72 rfl rfl), rfl, rfl, tyX0_ok 5 (by decide), tyX0_ok, nmX0⟩
theorem fl_X5_132 : FL RX5 132 0 5 .int false := ⟨RX0, TX0, 12, tyX0, rfl, inw_X0, by decide, (tw1 73 rfl rfl), rfl, rfl, tyX0_ok 5 (by decide), tyX0_ok, nmX0⟩
theorem fl_X0_24 : FL RX0 24 0 6 .int false := ⟨RX0, TX0, 12, tyX0, rfl, inw_X0, by decide, (tw1 74 rfl rfl), rfl, rfl, tyX0_ok 6 (by decide), tyX0_ok, nmX0⟩
theorem fl_X6_107 : FL RX6 107 0 6 .int false := ⟨RX0, TX0, 12, tyX0, rfl, inw_X0, by decide, (tw1 75 rfl rfl), rfl, rfl, tyX0_ok 6 (by decide), tyX0_ok, nmX0⟩
theorem fl_X5_135 : FL RX5 135 0 6 .int false := ⟨RX0, TX0, 12, tyX0, rfl, inw_X0, by decide, (tw1 76 rfl rfl), rfl, rfl, tyX0_ok 6 (by decide), tyX0_ok, nmX0⟩
theorem fl_X0_34 : FL RX0 34 0 7 .int false := ⟨RX0, TX0, 12, tyX0, rfl, inw_X0, by decide, (tw1 77 rfl rfl), rfl, rfl, tyX0_ok 7 (by decide), tyX0_ok, nmX0⟩
theorem fl_X6_110 : FL RX6 110 0 7 .int false := ⟨RX0, TX0, 12, tyX0, rfl, inw_X0, by decide, (tw1 78 rfl rfl), rfl, rfl, tyX0_ok 7 (by decide), tyX0_ok, nmX0⟩
theorem fl_X5_138 : FL RX5 138 0 7 .int false := ⟨RX0, TX0, 12, tyX0, rfl, inw_X0, by decide, (tw1 79 rfl rfl), rfl, rfl, tyX0_ok 7 (by decide), tyX0_ok, nmX0⟩
theorem fl_X0_37 : FL RX0 37 0 8 .int false := ⟨RX0, TX0, 12, tyX0, rfl, inw_X0, by decide, (tw1 80 rfl rfl), rfl, rfl, tyX0_ok 8 (by decide), tyX0_ok, nmX0⟩
theorem fl_X6_113 : FL RX6 113 0 8 .int false := ⟨RX0, TX0, 12, tyX0, rfl, inw_X0, by decide, (tw1 81 rfl rfl), rfl, rfl, tyX0_ok 8 (by decide), tyX0_ok, nmX0⟩
theorem fl_X5_141 : FL RX5 141 0 8 .int false := ⟨RX0, TX0, 12, tyX0, rfl, inw_X0, by decide, (tw1 82 rfl rfl), rfl, rfl, tyX0_ok 8 (by decide), tyX0_ok, nmX0⟩
theorem fl_X0_40 : FL RX0 40 0 9 .int false := ⟨RX0, TX0, 12, tyX0, rfl, inw_X0, by decide, (tw1 83 rfl rfl), rfl, rfl, tyX0_ok 9 (by decide), tyX0_ok, nmX0⟩
theorem fl_X6_116 : FL RX6 116 0 9 .int false := ⟨RX0, TX0, 12, tyX0, rfl, inw_X0, by decide, (tw1 84 rfl rfl), rfl, rfl, tyX0_ok 9 (by decide), tyX0_ok, nmX0⟩
theorem fl_X0_43 : FL RX0 43 0 10 .int false := ⟨RX0, TX0, 12, tyX0, rfl, inw_X0, by decide, (tw1 85 rfl rfl), rfl, rfl, tyX0_ok 10 (by decide), tyX0_ok, nmX0⟩
theorem fl_X6_119 : FL RX6 119 0 10 .int false := ⟨RX0, TX0, 12, tyX0, rfl, inw_X0, by decide, (tw1 86 rfl rfl), rfl, rfl, tyX0_ok 10 (by decide), tyX0_ok, nmX0⟩
theorem fl_X0_46 : FL RX0 46 0 11 .int false := ⟨RX0, TX0, 12, tyX0, rfl, inw_X0, by decide, (tw1 87 rfl rfl), rfl, rfl, tyX0_ok 11 (by decide), tyX0_ok, nmX0⟩
theorem fl_X6_122 : FL RX6 122 0 11 .int false := ⟨RX0, TX0, 12, tyX0, rfl, inw_X0, by decide, (tw1 88 rfl rfl), rfl, rfl, tyX0_ok 11 (by decide), tyX0_ok, nmX0⟩
theorem fl_X5_12 : FL RX5 12 5 0 (.object "FireLeave$Tape") true := ⟨RX5, TX5, 9, tyX5, rfl, inw_X5, by decide, (tw1 115 rfl rfl), rfl, rfl, tyX5_ok 0 (by decide), tyX5_ok, nmX5⟩
theorem fl_X6_58 : FL RX6 58 5 0 (.object "FireLeave$Tape") true := ⟨RX5, TX5, 9, tyX5, rfl, inw_X5, by decide, (tw1 116 rfl rfl), rfl, rfl, tyX5_ok 0 (by decide), tyX5_ok, nmX5⟩
theorem fl_X5_21 : FL RX5 21 5 1 (.object "FireLeave$City") true := ⟨RX5, TX5, 9, tyX5, rfl, inw_X5, by decide, (tw1 117 rfl rfl), rfl, rfl, tyX5_ok 1 (by decide), tyX5_ok, nmX5⟩
theorem fl_X6_84 : FL RX6 84 5 1 (.object "FireLeave$City") true := ⟨RX5, TX5, 9, tyX5, rfl, inw_X5, by decide, (tw1 118 rfl rfl), rfl, rfl, tyX5_ok 1 (by decide), tyX5_ok, nmX5⟩
theorem fl_X5_25 : FL RX5 25 5 2 (.array .int) true := ⟨RX5, TX5, 9, tyX5, rfl, inw_X5, by decide, (tw1 119 rfl rfl), rfl, rfl, tyX5_ok 2 (by decide), tyX5_ok, nmX5⟩
theorem fl_X5_29 : FL RX5 29 5 3 (.array .int) true := ⟨RX5, TX5, 9, tyX5, rfl, inw_X5, by decide, (tw1 120 rfl rfl), rfl, rfl, tyX5_ok 3 (by decide), tyX5_ok, nmX5⟩
theorem fl_X5_38 : FL RX5 38 5 4 .int false := ⟨RX5, TX5, 9, tyX5, rfl, inw_X5, by decide, (tw1 121 rfl rfl), rfl, rfl, tyX5_ok 4 (by decide), tyX5_ok, nmX5⟩
theorem fl_X5_42 : FL RX5 42 5 5 .boolean false := ⟨RX5, TX5, 9, tyX5, rfl, inw_X5, by decide, (tw1 122 rfl rfl), rfl, rfl, tyX5_ok 5 (by decide), tyX5_ok, nmX5⟩
theorem fl_X5_46 : FL RX5 46 5 6 .int false := ⟨RX5, TX5, 9, tyX5, rfl, inw_X5, by decide, (tw1 123 rfl rfl), rfl, rfl, tyX5_ok 6 (by decide), tyX5_ok, nmX5⟩
theorem fl_X6_98 : FL RX6 98 5 6 .int false := ⟨RX5, TX5, 9, tyX5, rfl, inw_X5, by decide, (tw1 124 rfl rfl), rfl, rfl, tyX5_ok 6 (by decide), tyX5_ok, nmX5⟩
theorem fl_X5_49 : FL RX5 49 5 7 .int false := ⟨RX5, TX5, 9, tyX5, rfl, inw_X5, by decide, (tw1 125 rfl rfl), rfl, rfl, tyX5_ok 7 (by decide), tyX5_ok, nmX5⟩
theorem fl_X6_75 : FL RX6 75 5 7 .int false := ⟨RX5, TX5, 9, tyX5, rfl, inw_X5, by decide, (tw1 126 rfl rfl), rfl, rfl, tyX5_ok 7 (by decide), tyX5_ok, nmX5⟩
theorem fl_X5_66 : FL RX5 66 5 8 .int false := ⟨RX5, TX5, 9, tyX5, rfl, inw_X5, by decide, (tw1 127 rfl rfl), rfl, rfl, tyX5_ok 8 (by decide), tyX5_ok, nmX5⟩
theorem fl_X6_81 : FL RX6 81 5 8 .int false := ⟨RX5, TX5, 9, tyX5, rfl, inw_X5, by decide, (tw1 128 rfl rfl), rfl, rfl, tyX5_ok 8 (by decide), tyX5_ok, nmX5⟩
theorem fl_X3_9 : FL RX3 9 3 0 (.array .int) true := ⟨RX3, TX3, 4, tyX3, rfl, inw_X3, by decide, (tw1 156 rfl rfl), rfl, rfl, tyX3_ok 0 (by decide), tyX3_ok, nmX3⟩
theorem fl_X3_15 : FL RX3 15 3 1 (.array .int) true := ⟨RX3, TX3, 4, tyX3, rfl, inw_X3, by decide, (tw1 157 rfl rfl), rfl, rfl, tyX3_ok 1 (by decide), tyX3_ok, nmX3⟩
theorem fl_X3_18 : FL RX3 18 3 2 (.array .int) true := ⟨RX3, TX3, 4, tyX3, rfl, inw_X3, by decide, (tw1 158 rfl rfl), rfl, rfl, tyX3_ok 2 (by decide), tyX3_ok, nmX3⟩
theorem fl_X3_21 : FL RX3 21 3 3 .int false := ⟨RX3, TX3, 4, tyX3, rfl, inw_X3, by decide, (tw1 159 rfl rfl), rfl, rfl, tyX3_ok 3 (by decide), tyX3_ok, nmX3⟩
theorem fl_X6_91 : FL RX6 91 3 3 .int false := ⟨RX3, TX3, 4, tyX3, rfl, inw_X3, by decide, (tw1 160 rfl rfl), rfl, rfl, tyX3_ok 3 (by decide), tyX3_ok, nmX3⟩
theorem fl_X1_10 : FL RX1 10 1 0 (.object "FireLeave$City") true := ⟨RX1, TX1, 3, tyX1, rfl, inw_X1, by decide, (tw1 181 rfl rfl), rfl, rfl, tyX1_ok 0 (by decide), tyX1_ok, nmX1⟩
theorem fl_X6_229 : FL RX6 229 1 0 (.object "FireLeave$City") true := ⟨RX1, TX1, 3, tyX1, rfl, inw_X1, by decide, (tw1 182 rfl rfl), rfl, rfl, tyX1_ok 0 (by decide), tyX1_ok, nmX1⟩
theorem fl_X1_19 : FL RX1 19 1 1 (.object "FireLeave$Sightings") true := ⟨RX1, TX1, 3, tyX1, rfl, inw_X1, by decide, (tw1 183 rfl rfl), rfl, rfl, tyX1_ok 1 (by decide), tyX1_ok, nmX1⟩
theorem fl_X6_232 : FL RX6 232 1 1 (.object "FireLeave$Sightings") true := ⟨RX1, TX1, 3, tyX1, rfl, inw_X1, by decide, (tw1 184 rfl rfl), rfl, rfl, tyX1_ok 1 (by decide), tyX1_ok, nmX1⟩
theorem fl_X6_94 : FL RX6 94 1 2 .boolean false := ⟨RX1, TX1, 3, tyX1, rfl, inw_X1, by decide, (tw1 185 rfl rfl), rfl, rfl, tyX1_ok 2 (by decide), tyX1_ok, nmX1⟩
theorem fl_X2_9 : FL RX2 9 2 0 (.array .int) true := ⟨RX2, TX2, 4, tyX2, rfl, inw_X2, by decide, (tw1 200 rfl rfl), rfl, rfl, tyX2_ok 0 (by decide), tyX2_ok, nmX2⟩
theorem fl_X2_21 : FL RX2 21 2 1 .boolean false := ⟨RX2, TX2, 4, tyX2, rfl, inw_X2, by decide, (tw1 201 rfl rfl), rfl, rfl, tyX2_ok 1 (by decide), tyX2_ok, nmX2⟩
theorem fl_X6_263 : FL RX6 263 2 1 .boolean false := ⟨RX2, TX2, 4, tyX2, rfl, inw_X2, by decide, (tw1 202 rfl rfl), rfl, rfl, tyX2_ok 1 (by decide), tyX2_ok, nmX2⟩
theorem fl_X2_25 : FL RX2 25 2 2 .int false := ⟨RX2, TX2, 4, tyX2, rfl, inw_X2, by decide, (tw1 203 rfl rfl), rfl, rfl, tyX2_ok 2 (by decide), tyX2_ok, nmX2⟩
theorem fl_X6_239 : FL RX6 239 2 2 .int false := ⟨RX2, TX2, 4, tyX2, rfl, inw_X2, by decide, (tw1 204 rfl rfl), rfl, rfl, tyX2_ok 2 (by decide), tyX2_ok, nmX2⟩
theorem fl_X2_29 : FL RX2 29 2 3 .int false := ⟨RX2, TX2, 4, tyX2, rfl, inw_X2, by decide, (tw1 205 rfl rfl), rfl, rfl, tyX2_ok 3 (by decide), tyX2_ok, nmX2⟩
theorem fl_X6_264 : FL RX6 264 2 3 .int false := ⟨RX2, TX2, 4, tyX2, rfl, inw_X2, by decide, (tw1 206 rfl rfl), rfl, rfl, tyX2_ok 3 (by decide), tyX2_ok, nmX2⟩
theorem fl_X6_10 : FL RX6 10 6 0 (.object "FireLeave$TextReader") true := ⟨RX6, TX6, 10, tyX6, rfl, inw_X6, by decide, (tw1 216 rfl rfl), rfl, rfl, tyX6_ok 0 (by decide), tyX6_ok, nmX6⟩
theorem fl_X6_19 : FL RX6 19 6 1 (.object "FireLeave$City") true := ⟨RX6, TX6, 10, tyX6, rfl, inw_X6, by decide, (tw1 217 rfl rfl), rfl, rfl, tyX6_ok 1 (by decide), tyX6_ok, nmX6⟩
theorem fl_X6_23 : FL RX6 23 6 2 (.object "FireLeave$City") true := ⟨RX6, TX6, 10, tyX6, rfl, inw_X6, by decide, (tw1 218 rfl rfl), rfl, rfl, tyX6_ok 2 (by decide), tyX6_ok, nmX6⟩
theorem fl_X6_29 : FL RX6 29 6 3 (.object "FireLeave$Sightings") true := ⟨RX6, TX6, 10, tyX6, rfl, inw_X6, by decide, (tw1 219 rfl rfl), rfl, rfl, tyX6_ok 3 (by decide), tyX6_ok, nmX6⟩
theorem fl_X6_35 : FL RX6 35 6 4 (.array (.object "FireLeave$Image")) true := ⟨RX6, TX6, 10, tyX6, rfl, inw_X6, by decide, (tw1 220 rfl rfl), rfl, rfl, tyX6_ok 4 (by decide), tyX6_ok, nmX6⟩
theorem fl_X6_42 : FL RX6 42 6 5 (.array (.object "FireLeave$Sheet")) true := ⟨RX6, TX6, 10, tyX6, rfl, inw_X6, by decide, (tw1 221 rfl rfl), rfl, rfl, tyX6_ok 5 (by decide), tyX6_ok, nmX6⟩
theorem fl_X6_47 : FL RX6 47 6 6 (.array .int) true := ⟨RX6, TX6, 10, tyX6, rfl, inw_X6, by decide, (tw1 222 rfl rfl), rfl, rfl, tyX6_ok 6 (by decide), tyX6_ok, nmX6⟩
theorem fl_X6_51 : FL RX6 51 6 7 (.array .int) true := ⟨RX6, TX6, 10, tyX6, rfl, inw_X6, by decide, (tw1 223 rfl rfl), rfl, rfl, tyX6_ok 7 (by decide), tyX6_ok, nmX6⟩
theorem fl_X6_78 : FL RX6 78 6 8 .int false := ⟨RX6, TX6, 10, tyX6, rfl, inw_X6, by decide, (tw1 224 rfl rfl), rfl, rfl, tyX6_ok 8 (by decide), tyX6_ok, nmX6⟩
theorem fl_X6_254 : FL RX6 254 6 9 .int false := ⟨RX6, TX6, 10, tyX6, rfl, inw_X6, by decide, (tw1 225 rfl rfl), rfl, rfl, tyX6_ok 9 (by decide), tyX6_ok, nmX6⟩
theorem fl_X7_7 : FL RX7 7 7 0 (.array .int) true := ⟨RX7, TX7, 28, tyX7, rfl, inw_X7, by decide, (tw4 19 rfl rfl), rfl, rfl, tyX7_ok 0 (by decide), tyX7_ok, nmX7⟩
theorem fl_X7_13 : FL RX7 13 7 1 (.array .int) true := ⟨RX7, TX7, 28, tyX7, rfl, inw_X7, by decide, (tw4 20 rfl rfl), rfl, rfl, tyX7_ok 1 (by decide), tyX7_ok, nmX7⟩
theorem fl_X7_16 : FL RX7 16 7 2 (.array .boolean) true := ⟨RX7, TX7, 28, tyX7, rfl, inw_X7, by decide, (tw4 21 rfl rfl), rfl, rfl, tyX7_ok 2 (by decide), tyX7_ok, nmX7⟩
theorem fl_X7_67 : FL RX7 67 7 3 .int false := ⟨RX7, TX7, 28, tyX7, rfl, inw_X7, by decide, (tw4 22 rfl rfl), rfl, rfl, tyX7_ok 3 (by decide), tyX7_ok, nmX7⟩
theorem fl_X7_20 : FL RX7 20 7 4 (.array .int) true := ⟨RX7, TX7, 28, tyX7, rfl, inw_X7, by decide, (tw4 23 rfl rfl), rfl, rfl, tyX7_ok 4 (by decide), tyX7_ok, nmX7⟩
theorem fl_X7_53 : FL RX7 53 7 5 .int false := ⟨RX7, TX7, 28, tyX7, rfl, inw_X7, by decide, (tw4 24 rfl rfl), rfl, rfl, tyX7_ok 5 (by decide), tyX7_ok, nmX7⟩
theorem fl_X7_57 : FL RX7 57 7 6 .boolean false := ⟨RX7, TX7, 28, tyX7, rfl, inw_X7, by decide, (tw4 25 rfl rfl), rfl, rfl, tyX7_ok 6 (by decide), tyX7_ok, nmX7⟩
theorem fl_X7_61 : FL RX7 61 7 7 .int false := ⟨RX7, TX7, 28, tyX7, rfl, inw_X7, by decide, (tw4 26 rfl rfl), rfl, rfl, tyX7_ok 7 (by decide), tyX7_ok, nmX7⟩
theorem fl_X7_23 : FL RX7 23 7 8 (.array .int) true := ⟨RX7, TX7, 28, tyX7, rfl, inw_X7, by decide, (tw4 27 rfl rfl), rfl, rfl, tyX7_ok 8 (by decide), tyX7_ok, nmX7⟩
theorem fl_X7_64 : FL RX7 64 7 9 .int false := ⟨RX7, TX7, 28, tyX7, rfl, inw_X7, by decide, (tw4 28 rfl rfl), rfl, rfl, tyX7_ok 9 (by decide), tyX7_ok, nmX7⟩
theorem fl_X7_26 : FL RX7 26 7 10 (.array .int) true := ⟨RX7, TX7, 28, tyX7, rfl, inw_X7, by decide, (tw4 29 rfl rfl), rfl, rfl, tyX7_ok 10 (by decide), tyX7_ok, nmX7⟩
theorem fl_X7_76 : FL RX7 76 7 11 .int false := ⟨RX7, TX7, 28, tyX7, rfl, inw_X7, by decide, (tw4 30 rfl rfl), rfl, rfl, tyX7_ok 11 (by decide), tyX7_ok, nmX7⟩
theorem fl_X7_88 : FL RX7 88 7 12 .int false := ⟨RX7, TX7, 28, tyX7, rfl, inw_X7, by decide, (tw4 31 rfl rfl), rfl, rfl, tyX7_ok 12 (by decide), tyX7_ok, nmX7⟩
theorem fl_X7_82 : FL RX7 82 7 13 .int false := ⟨RX7, TX7, 28, tyX7, rfl, inw_X7, by decide, (tw4 32 rfl rfl), rfl, rfl, tyX7_ok 13 (by decide), tyX7_ok, nmX7⟩
theorem fl_X7_103 : FL RX7 103 7 14 .int false := ⟨RX7, TX7, 28, tyX7, rfl, inw_X7, by decide, (tw4 33 rfl rfl), rfl, rfl, tyX7_ok 14 (by decide), tyX7_ok, nmX7⟩
theorem fl_X7_114 : FL RX7 114 7 15 .int false := ⟨RX7, TX7, 28, tyX7, rfl, inw_X7, by decide, (tw4 34 rfl rfl), rfl, rfl, tyX7_ok 15 (by decide), tyX7_ok, nmX7⟩
theorem fl_X7_79 : FL RX7 79 7 16 .int false := ⟨RX7, TX7, 28, tyX7, rfl, inw_X7, by decide, (tw4 35 rfl rfl), rfl, rfl, tyX7_ok 16 (by decide), tyX7_ok, nmX7⟩
theorem fl_X7_85 : FL RX7 85 7 17 .int false := ⟨RX7, TX7, 28, tyX7, rfl, inw_X7, by decide, (tw4 36 rfl rfl), rfl, rfl, tyX7_ok 17 (by decide), tyX7_ok, nmX7⟩
theorem fl_X7_242 : FL RX7 242 7 18 .long false := ⟨RX7, TX7, 28, tyX7, rfl, inw_X7, by decide, (tw4 37 rfl rfl), rfl, rfl, tyX7_ok 18 (by decide), tyX7_ok, nmX7⟩
theorem fl_X7_246 : FL RX7 246 7 19 .long false := ⟨RX7, TX7, 28, tyX7, rfl, inw_X7, by decide, (tw4 38 rfl rfl), rfl, rfl, tyX7_ok 19 (by decide), tyX7_ok, nmX7⟩
theorem fl_X7_249 : FL RX7 249 7 20 .long false := ⟨RX7, TX7, 28, tyX7, rfl, inw_X7, by decide, (tw4 39 rfl rfl), rfl, rfl, tyX7_ok 20 (by decide), tyX7_ok, nmX7⟩
theorem fl_X7_29 : FL RX7 29 7 21 (.array .int) true := ⟨RX7, TX7, 28, tyX7, rfl, inw_X7, by decide, (tw4 40 rfl rfl), rfl, rfl, tyX7_ok 21 (by decide), tyX7_ok, nmX7⟩
theorem fl_X7_32 : FL RX7 32 7 22 (.array .int) true := ⟨RX7, TX7, 28, tyX7, rfl, inw_X7, by decide, (tw4 41 rfl rfl), rfl, rfl, tyX7_ok 22 (by decide), tyX7_ok, nmX7⟩
theorem fl_X7_35 : FL RX7 35 7 23 (.array .int) true := ⟨RX7, TX7, 28, tyX7, rfl, inw_X7, by decide, (tw4 42 rfl rfl), rfl, rfl, tyX7_ok 23 (by decide), tyX7_ok, nmX7⟩
theorem fl_X7_38 : FL RX7 38 7 24 (.array .int) true := ⟨RX7, TX7, 28, tyX7, rfl, inw_X7, by decide, (tw4 43 rfl rfl), rfl, rfl, tyX7_ok 24 (by decide), tyX7_ok, nmX7⟩
theorem fl_X7_41 : FL RX7 41 7 25 (.array .int) true := ⟨RX7, TX7, 28, tyX7, rfl, inw_X7, by decide, (tw4 44 rfl rfl), rfl, rfl, tyX7_ok 25 (by decide), tyX7_ok, nmX7⟩
theorem fl_X7_273 : FL RX7 273 7 26 .int false := ⟨RX7, TX7, 28, tyX7, rfl, inw_X7, by decide, (tw4 45 rfl rfl), rfl, rfl, tyX7_ok 26 (by decide), tyX7_ok, nmX7⟩
theorem fl_X7_44 : FL RX7 44 7 27 (.array .int) true := ⟨RX7, TX7, 28, tyX7, rfl, inw_X7, by decide, (tw4 46 rfl rfl), rfl, rfl, tyX7_ok 27 (by decide), tyX7_ok, nmX7⟩
theorem mv_L_13 : MV RL 13 yX6_feed cX6_feed 2 (some .int) 1 := ⟨(tw2 7 rfl rfl), (tw2 8 rfl rfl), (tw2 9 rfl rfl), (tw1 1 rfl rfl), (tw2 10 rfl rfl), ⟨by decide +kernel, by decide +kernel, by decide +kernel⟩⟩
theorem mz_X6_54 : MS RX6 54 yX6_outside cX6_outside 3 (some .boolean) 3 := ⟨(tw2 11 rfl rfl), (tw2 12 rfl rfl), (tw1 1 rfl rfl), (tw2 13 rfl rfl), ⟨by decide +kernel, by decide +kernel, by decide +kernel⟩⟩
theorem mv_X6_62 : MV RX6 62 yX4_append cX4_append 2 (some .boolean) 1 := ⟨(tw2 14 rfl rfl), (tw2 15 rfl rfl), (tw2 16 rfl rfl), (tw1 3 rfl rfl), (tw2 17 rfl rfl), ⟨by decide +kernel, by decide +kernel, by decide +kernel⟩⟩
theorem mv_L_18 : MV RL 18 yX6_end cX6_end 4 (some .int) 1 := ⟨(tw2 18 rfl rfl), (tw2 19 rfl rfl), (tw2 20 rfl rfl), (tw1 1 rfl rfl), (tw2 21 rfl rfl), ⟨by decide +kernel, by decide +kernel, by decide +kernel⟩⟩
theorem mv_L_22 : MV RL 22 yX6_text cX6_text 2 (some .int) 0 := ⟨(tw2 22 rfl rfl), (tw2 23 rfl rfl), (tw2 24 rfl rfl), (tw1 1 rfl rfl), (tw2 25 rfl rfl), ⟨by decide +kernel, by decide +kernel, by decide +kernel⟩⟩
theorem mv_X6_72 : MV RX6 72 yX5_takeText cX5_takeText 3 none 0 := ⟨(tw2 26 rfl rfl), (tw2 27 rfl rfl), (tw2 28 rfl rfl), (tw1 2 rfl rfl), (tw2 29 rfl rfl), ⟨by decide +kernel, by decide +kernel, by decide +kernel⟩⟩
theorem mv_X5_32 : MV RX5 32 yX4_rewind cX4_rewind 1 none 0 := ⟨(tw2 30 rfl rfl), (tw2 31 rfl rfl), (tw2 32 rfl rfl), (tw1 3 rfl rfl), (tw2 33 rfl rfl), ⟨by decide +kernel, by decide +kernel, by decide +kernel⟩⟩
theorem mv_X5_35 : MV RX5 35 yX0_clear cX0_clear 1 none 0 := ⟨(tw2 34 rfl rfl), (tw2 35 rfl rfl), (tw2 36 rfl rfl), (tw1 4 rfl rfl), (tw2 37 rfl rfl), ⟨by decide +kernel, by decide +kernel, by decide +kernel⟩⟩
theorem mv_X5_52 : MV RX5 52 yX4_takeToken cX4_takeToken 2 (some .int) 0 := ⟨(tw2 38 rfl rfl), (tw2 39 rfl rfl), (tw2 40 rfl rfl), (tw1 3 rfl rfl), (tw2 41 rfl rfl), ⟨by decide +kernel, by decide +kernel, by decide +kernel⟩⟩
theorem mv_X4_25 : MV RX4 25 yX4_signAt cX4_signAt 3 (some .int) 1 := ⟨(tw2 42 rfl rfl), (tw2 44 rfl rfl), (tw0 0 rfl rfl), (tw1 3 rfl rfl), (tw2 45 rfl rfl), ⟨by decide +kernel, by decide +kernel, by decide +kernel⟩⟩
theorem mv_X5_56 : MV RX5 56 yX5_takeLine cX5_takeLine 3 none 1 := ⟨(tw2 46 rfl rfl), (tw2 48 rfl rfl), (tw0 1 rfl rfl), (tw1 2 rfl rfl), (tw2 49 rfl rfl), ⟨by decide +kernel, by decide +kernel, by decide +kernel⟩⟩
theorem mv_X5_76 : MV RX5 76 yX5_lineByName cX5_lineByName 1 (some .int) 0 := ⟨(tw2 50 rfl rfl), (tw2 52 rfl rfl), (tw0 2 rfl rfl), (tw1 2 rfl rfl), (tw2 53 rfl rfl), ⟨by decide +kernel, by decide +kernel, by decide +kernel⟩⟩
theorem mv_X5_99 : MV RX5 99 yX4_nameIs cX4_nameIs 3 (some .boolean) 1 := ⟨(tw2 55 rfl rfl), (tw2 56 rfl rfl), (tw2 57 rfl rfl), (tw1 3 rfl rfl), (tw2 58 rfl rfl), ⟨by decide +kernel, by decide +kernel, by decide +kernel⟩⟩
theorem mv_X4_29 : MV RX4 29 yJ0_length_8abf5 cJ0_length_8abf5 1 (some .int) 0 := ⟨(tw2 59 rfl rfl), (tw2 60 rfl rfl), (tw2 61 rfl rfl), (tw1 9 rfl rfl), (tw2 62 rfl rfl), ⟨by decide +kernel, by decide +kernel, by decide +kernel⟩⟩
theorem mv_J0_335 : MV RJ0 335 yJ0_coder_7d493 cJ0_coder_7d493 1 (some .byte) 0 := ⟨(tw2 63 rfl rfl), (tw2 64 rfl rfl), (tw2 65 rfl rfl), (tw1 9 rfl rfl), (tw2 66 rfl rfl), ⟨by decide +kernel, by decide +kernel, by decide +kernel⟩⟩
theorem mv_X4_34 : MV RX4 34 yJ0_charAt_5068e cJ0_charAt_5068e 2 (some .char) 1 := ⟨(tw2 69 rfl rfl), (tw2 70 rfl rfl), (tw2 71 rfl rfl), (tw1 9 rfl rfl), (tw2 72 rfl rfl), ⟨by decide +kernel, by decide +kernel, by decide +kernel⟩⟩
theorem mv_J0_492 : MV RJ0 492 yJ0_isLatin1_aae02 cJ0_isLatin1_aae02 1 (some .boolean) 0 := ⟨(tw2 73 rfl rfl), (tw2 74 rfl rfl), (tw2 75 rfl rfl), (tw1 9 rfl rfl), (tw2 76 rfl rfl), ⟨by decide +kernel, by decide +kernel, by decide +kernel⟩⟩
theorem mz_J0_495 : MS RJ0 495 yJ1_charAt_3b067 cJ1_charAt_3b067 2 (some .char) 2 := ⟨(tw2 77 rfl rfl), (tw2 78 rfl rfl), (tw1 10 rfl rfl), (tw2 79 rfl rfl), ⟨by decide +kernel, by decide +kernel, by decide +kernel⟩⟩
theorem mz_J1_9 : MS RJ1 9 yJ0_checkIndex_df160 cJ0_checkIndex_df160 2 none 2 := ⟨(tw2 80 rfl rfl), (tw2 81 rfl rfl), (tw1 9 rfl rfl), (tw2 82 rfl rfl), ⟨by decide +kernel, by decide +kernel, by decide +kernel⟩⟩
theorem mz_J0_1059 : MS RJ0 1059 yJ3_checkIndex_8e157 cJ3_checkIndex_8e157 3 (some .int) 3 := ⟨(tw2 85 rfl rfl), (tw2 86 rfl rfl), (tw1 11 rfl rfl), (tw2 87 rfl rfl), ⟨by decide +kernel, by decide +kernel, by decide +kernel⟩⟩
theorem mz_J0_498 : MS RJ0 498 yJ2_charAt_3b067 cJ2_charAt_3b067 2 (some .char) 2 := ⟨(tw2 88 rfl rfl), (tw2 89 rfl rfl), (tw1 12 rfl rfl), (tw2 90 rfl rfl), ⟨by decide +kernel, by decide +kernel, by decide +kernel⟩⟩
theorem mz_J2_67 : MS RJ2 67 yJ2_checkIndex_2214a cJ2_checkIndex_2214a 2 none 2 := ⟨(tw2 91 rfl rfl), (tw2 92 rfl rfl), (tw1 12 rfl rfl), (tw2 93 rfl rfl), ⟨by decide +kernel, by decide +kernel, by decide +kernel⟩⟩
theorem mz_J2_48 : MS RJ2 48 yJ2_length_9d52b cJ2_length_9d52b 1 (some .int) 1 := ⟨(tw2 94 rfl rfl), (tw2 95 rfl rfl), (tw1 12 rfl rfl), (tw2 96 rfl rfl), ⟨by decide +kernel, by decide +kernel, by decide +kernel⟩⟩
theorem mz_J2_414 : MS RJ2 414 yJ0_checkIndex_df160 cJ0_checkIndex_df160 2 none 2 := ⟨(tw2 97 rfl rfl), (tw2 81 rfl rfl), (tw1 9 rfl rfl), (tw2 82 rfl rfl), ⟨by decide +kernel, by decide +kernel, by decide +kernel⟩⟩
theorem mz_J2_71 : MS RJ2 71 yJ2_getChar_3b067 cJ2_getChar_3b067 2 (some .char) 2 := ⟨(tw2 98 rfl rfl), (tw2 99 rfl rfl), (tw1 12 rfl rfl), (tw2 100 rfl rfl), ⟨by decide +kernel, by decide +kernel, by decide +kernel⟩⟩
theorem mv_X5_79 : MV RX5 79 yX5_refuseToken cX5_refuseToken 2 none 1 := ⟨(tw2 113 rfl rfl), (tw2 115 rfl rfl), (tw0 3 rfl rfl), (tw1 2 rfl rfl), (tw2 116 rfl rfl), ⟨by decide +kernel, by decide +kernel, by decide +kernel⟩⟩
theorem mv_X5_72 : MV RX5 72 yX5_fail cX5_fail 3 none 2 := ⟨(tw2 117 rfl rfl), (tw2 119 rfl rfl), (tw0 4 rfl rfl), (tw1 2 rfl rfl), (tw2 120 rfl rfl), ⟨by decide +kernel, by decide +kernel, by decide +kernel⟩⟩
theorem mv_X5_82 : MV RX5 82 yX5_takeFire cX5_takeFire 1 none 0 := ⟨(tw2 121 rfl rfl), (tw2 123 rfl rfl), (tw0 5 rfl rfl), (tw1 2 rfl rfl), (tw2 124 rfl rfl), ⟨by decide +kernel, by decide +kernel, by decide +kernel⟩⟩
theorem mv_X5_125 : MV RX5 125 yX5_takeNumber cX5_takeNumber 5 (some .int) 2 := ⟨(tw2 125 rfl rfl), (tw2 127 rfl rfl), (tw0 6 rfl rfl), (tw1 2 rfl rfl), (tw2 128 rfl rfl), ⟨by decide +kernel, by decide +kernel, by decide +kernel⟩⟩
theorem mv_X5_115 : MV RX5 115 yX4_number cX4_number 3 (some .int) 0 := ⟨(tw2 129 rfl rfl), (tw2 130 rfl rfl), (tw2 131 rfl rfl), (tw1 3 rfl rfl), (tw2 132 rfl rfl), ⟨by decide +kernel, by decide +kernel, by decide +kernel⟩⟩
theorem mn_X5_118 : MN RX5 118 yX6_outside "FireLeave" cX6_outside 3 (some .boolean) 3 := ⟨(tq2 133 rfl), (tw2 12 rfl rfl), (tw1 1 rfl rfl), (tw2 13 rfl rfl), ⟨by decide +kernel, by decide +kernel, by decide +kernel⟩⟩
theorem mv_X5_85 : MV RX5 85 yX5_takeRain cX5_takeRain 2 none 0 := ⟨(tw2 134 rfl rfl), (tw2 136 rfl rfl), (tw0 7 rfl rfl), (tw1 2 rfl rfl), (tw2 137 rfl rfl), ⟨by decide +kernel, by decide +kernel, by decide +kernel⟩⟩
theorem mv_X5_88 : MV RX5 88 yX5_takeOffer cX5_takeOffer 1 none 0 := ⟨(tw2 138 rfl rfl), (tw2 140 rfl rfl), (tw0 8 rfl rfl), (tw1 2 rfl rfl), (tw2 141 rfl rfl), ⟨by decide +kernel, by decide +kernel, by decide +kernel⟩⟩
theorem mv_X5_91 : MV RX5 91 yX5_takeHouse cX5_takeHouse 2 none 1 := ⟨(tw2 142 rfl rfl), (tw2 144 rfl rfl), (tw0 9 rfl rfl), (tw1 2 rfl rfl), (tw2 145 rfl rfl), ⟨by decide +kernel, by decide +kernel, by decide +kernel⟩⟩
theorem mv_X5_129 : MV RX5 129 yX0_addHouse cX0_addHouse 3 none 2 := ⟨(tw2 146 rfl rfl), (tw2 147 rfl rfl), (tw2 148 rfl rfl), (tw1 4 rfl rfl), (tw2 149 rfl rfl), ⟨by decide +kernel, by decide +kernel, by decide +kernel⟩⟩
theorem mv_X5_94 : MV RX5 94 yX5_takeStop cX5_takeStop 2 none 0 := ⟨(tw2 150 rfl rfl), (tw2 152 rfl rfl), (tw0 10 rfl rfl), (tw1 2 rfl rfl), (tw2 153 rfl rfl), ⟨by decide +kernel, by decide +kernel, by decide +kernel⟩⟩
theorem mv_X5_60 : MV RX5 60 yX5_checkHouses cX5_checkHouses 2 none 0 := ⟨(tw2 154 rfl rfl), (tw2 156 rfl rfl), (tw0 11 rfl rfl), (tw1 2 rfl rfl), (tw2 157 rfl rfl), ⟨by decide +kernel, by decide +kernel, by decide +kernel⟩⟩
theorem mv_X5_144 : MV RX5 144 yX0_has cX0_has 2 (some .boolean) 1 := ⟨(tw2 158 rfl rfl), (tw2 159 rfl rfl), (tw2 160 rfl rfl), (tw1 4 rfl rfl), (tw2 161 rfl rfl), ⟨by decide +kernel, by decide +kernel, by decide +kernel⟩⟩
theorem mv_X5_63 : MV RX5 63 yX5_makeOffers cX5_makeOffers 2 none 0 := ⟨(tw2 162 rfl rfl), (tw2 164 rfl rfl), (tw0 12 rfl rfl), (tw1 2 rfl rfl), (tw2 165 rfl rfl), ⟨by decide +kernel, by decide +kernel, by decide +kernel⟩⟩
theorem mv_X5_151 : MV RX5 151 yX0_giveAhead cX0_giveAhead 3 (some .int) 2 := ⟨(tw2 166 rfl rfl), (tw2 167 rfl rfl), (tw2 168 rfl rfl), (tw1 4 rfl rfl), (tw2 169 rfl rfl), ⟨by decide +kernel, by decide +kernel, by decide +kernel⟩⟩
theorem mv_X0_61 : MV RX0 61 yX0_has cX0_has 2 (some .boolean) 1 := ⟨(tw2 170 rfl rfl), (tw2 159 rfl rfl), (tw2 160 rfl rfl), (tw1 4 rfl rfl), (tw2 161 rfl rfl), ⟨by decide +kernel, by decide +kernel, by decide +kernel⟩⟩
theorem mn_X0_69 : MN RX0 69 yX6_outside "FireLeave" cX6_outside 3 (some .boolean) 3 := ⟨(tq2 171 rfl), (tw2 12 rfl rfl), (tw1 1 rfl rfl), (tw2 13 rfl rfl), ⟨by decide +kernel, by decide +kernel, by decide +kernel⟩⟩
theorem mv_X0_73 : MV RX0 73 yX0_give cX0_give 3 none 2 := ⟨(tw2 172 rfl rfl), (tw2 174 rfl rfl), (tw0 13 rfl rfl), (tw1 4 rfl rfl), (tw2 175 rfl rfl), ⟨by decide +kernel, by decide +kernel, by decide +kernel⟩⟩
theorem mz_X0_91 : MS RX0 91 yJ9_max_7cf53 cJ9_max_7cf53 2 (some .int) 2 := ⟨(tw2 176 rfl rfl), (tw2 177 rfl rfl), (tw1 13 rfl rfl), (tw2 178 rfl rfl), ⟨by decide +kernel, by decide +kernel, by decide +kernel⟩⟩
theorem mv_X6_87 : MV RX6 87 yX0_becomeLike cX0_becomeLike 2 none 1 := ⟨(tw2 179 rfl rfl), (tw2 180 rfl rfl), (tw2 181 rfl rfl), (tw1 4 rfl rfl), (tw2 182 rfl rfl), ⟨by decide +kernel, by decide +kernel, by decide +kernel⟩⟩
theorem mv_L_27 : MV RL 27 yX6_fault cX6_fault 1 (some .int) 0 := ⟨(tw2 186 rfl rfl), (tw2 187 rfl rfl), (tw2 188 rfl rfl), (tw1 1 rfl rfl), (tw2 189 rfl rfl), ⟨by decide +kernel, by decide +kernel, by decide +kernel⟩⟩
theorem mv_L_31 : MV RL 31 yX6_rule cX6_rule 2 (some .int) 1 := ⟨(tw2 190 rfl rfl), (tw2 191 rfl rfl), (tw2 192 rfl rfl), (tw1 1 rfl rfl), (tw2 193 rfl rfl), ⟨by decide +kernel, by decide +kernel, by decide +kernel⟩⟩
theorem mv_X6_125 : MV RX6 125 yX0_allWorth cX0_allWorth 3 (some .int) 0 := ⟨(tw2 194 rfl rfl), (tw2 195 rfl rfl), (tw2 196 rfl rfl), (tw1 4 rfl rfl), (tw2 197 rfl rfl), ⟨by decide +kernel, by decide +kernel, by decide +kernel⟩⟩
theorem mv_L_35 : MV RL 35 yX6_house cX6_house 3 (some .int) 2 := ⟨(tw2 198 rfl rfl), (tw2 199 rfl rfl), (tw2 200 rfl rfl), (tw1 1 rfl rfl), (tw2 201 rfl rfl), ⟨by decide +kernel, by decide +kernel, by decide +kernel⟩⟩
theorem mv_X6_129 : MV RX6 129 yX0_has cX0_has 2 (some .boolean) 1 := ⟨(tw2 202 rfl rfl), (tw2 159 rfl rfl), (tw2 160 rfl rfl), (tw1 4 rfl rfl), (tw2 161 rfl rfl), ⟨by decide +kernel, by decide +kernel, by decide +kernel⟩⟩
theorem mv_L_40 : MV RL 40 yX6_alter cX6_alter 6 (some .int) 3 := ⟨(tw2 203 rfl rfl), (tw2 204 rfl rfl), (tw2 205 rfl rfl), (tw1 1 rfl rfl), (tw2 206 rfl rfl), ⟨by decide +kernel, by decide +kernel, by decide +kernel⟩⟩
theorem mv_L_45 : MV RL 45 yX6_set cX6_set 4 (some .int) 2 := ⟨(tw2 207 rfl rfl), (tw2 208 rfl rfl), (tw2 209 rfl rfl), (tw1 1 rfl rfl), (tw2 210 rfl rfl), ⟨by decide +kernel, by decide +kernel, by decide +kernel⟩⟩
theorem mv_L_49 : MV RL 49 yX6_rain cX6_rain 5 (some .int) 2 := ⟨(tw2 211 rfl rfl), (tw2 212 rfl rfl), (tw2 213 rfl rfl), (tw1 1 rfl rfl), (tw2 214 rfl rfl), ⟨by decide +kernel, by decide +kernel, by decide +kernel⟩⟩
theorem mv_L_54 : MV RL 54 yX6_offer cX6_offer 3 (some .int) 2 := ⟨(tw2 215 rfl rfl), (tw2 216 rfl rfl), (tw2 217 rfl rfl), (tw1 1 rfl rfl), (tw2 218 rfl rfl), ⟨by decide +kernel, by decide +kernel, by decide +kernel⟩⟩
theorem mv_X6_141 : MV RX6 141 yX0_giveAhead cX0_giveAhead 3 (some .int) 2 := ⟨(tw2 219 rfl rfl), (tw2 167 rfl rfl), (tw2 168 rfl rfl), (tw1 4 rfl rfl), (tw2 169 rfl rfl), ⟨by decide +kernel, by decide +kernel, by decide +kernel⟩⟩
theorem mv_L_58 : MV RL 58 yX6_go cX6_go 3 (some .int) 1 := ⟨(tw2 220 rfl rfl), (tw2 221 rfl rfl), (tw2 222 rfl rfl), (tw1 1 rfl rfl), (tw2 223 rfl rfl), ⟨by decide +kernel, by decide +kernel, by decide +kernel⟩⟩
theorem mv_X6_145 : MV RX6 145 yX0_passNights cX0_passNights 3 none 1 := ⟨(tw2 224 rfl rfl), (tw2 225 rfl rfl), (tw2 226 rfl rfl), (tw1 4 rfl rfl), (tw2 227 rfl rfl), ⟨by decide +kernel, by decide +kernel, by decide +kernel⟩⟩
theorem mv_X0_77 : MV RX0 77 yX0_passNight cX0_passNight 1 none 0 := ⟨(tw2 228 rfl rfl), (tw2 229 rfl rfl), (tw2 230 rfl rfl), (tw1 4 rfl rfl), (tw2 231 rfl rfl), ⟨by decide +kernel, by decide +kernel, by decide +kernel⟩⟩
theorem mv_X0_80 : MV RX0 80 yX0_ask cX0_ask 3 none 0 := ⟨(tw2 232 rfl rfl), (tw2 233 rfl rfl), (tw2 234 rfl rfl), (tw1 4 rfl rfl), (tw2 235 rfl rfl), ⟨by decide +kernel, by decide +kernel, by decide +kernel⟩⟩
theorem mz_X0_83 : MS RX0 83 yJ9_min_7cf53 cJ9_min_7cf53 2 (some .int) 2 := ⟨(tw2 236 rfl rfl), (tw2 237 rfl rfl), (tw1 13 rfl rfl), (tw2 238 rfl rfl), ⟨by decide +kernel, by decide +kernel, by decide +kernel⟩⟩
theorem mv_X0_88 : MV RX0 88 yX0_burn cX0_burn 4 (some .int) 2 := ⟨(tw2 239 rfl rfl), (tw3 1 rfl rfl), (tw0 14 rfl rfl), (tw1 4 rfl rfl), (tw3 2 rfl rfl), ⟨by decide +kernel, by decide +kernel, by decide +kernel⟩⟩
theorem mv_L_62 : MV RL 62 yX6_runs cX6_runs 5 (some .int) 2 := ⟨(tw3 3 rfl rfl), (tw3 4 rfl rfl), (tw3 5 rfl rfl), (tw1 1 rfl rfl), (tw3 6 rfl rfl), ⟨by decide +kernel, by decide +kernel, by decide +kernel⟩⟩
theorem mv_X6_149 : MV RX6 149 yX6_startTrial cX6_startTrial 1 none 0 := ⟨(tw3 7 rfl rfl), (tw3 9 rfl rfl), (tw0 15 rfl rfl), (tw1 1 rfl rfl), (tw3 10 rfl rfl), ⟨by decide +kernel, by decide +kernel, by decide +kernel⟩⟩
theorem mv_X6_265 : MV RX6 265 yX0_forgetLoss cX0_forgetLoss 1 none 0 := ⟨(tw3 11 rfl rfl), (tw3 12 rfl rfl), (tw3 13 rfl rfl), (tw1 4 rfl rfl), (tw3 14 rfl rfl), ⟨by decide +kernel, by decide +kernel, by decide +kernel⟩⟩
theorem mz_X0_55 : MS RX0 55 yJ7_fill_53178 cJ7_fill_53178 4 none 2 := ⟨(tw3 15 rfl rfl), (tw3 16 rfl rfl), (tw1 15 rfl rfl), (tw3 17 rfl rfl), ⟨by decide +kernel, by decide +kernel, by decide +kernel⟩⟩
theorem mv_X6_152 : MV RX6 152 yX0_passNight cX0_passNight 1 none 0 := ⟨(tw3 18 rfl rfl), (tw2 229 rfl rfl), (tw2 230 rfl rfl), (tw1 4 rfl rfl), (tw2 231 rfl rfl), ⟨by decide +kernel, by decide +kernel, by decide +kernel⟩⟩
theorem mv_L_66 : MV RL 66 yX6_ahead cX6_ahead 3 (some .int) 2 := ⟨(tw3 19 rfl rfl), (tw3 20 rfl rfl), (tw3 21 rfl rfl), (tw1 1 rfl rfl), (tw3 22 rfl rfl), ⟨by decide +kernel, by decide +kernel, by decide +kernel⟩⟩
theorem mv_L_70 : MV RL 70 yX6_bare cX6_bare 3 (some .int) 1 := ⟨(tw3 23 rfl rfl), (tw3 24 rfl rfl), (tw3 25 rfl rfl), (tw1 1 rfl rfl), (tw3 26 rfl rfl), ⟨by decide +kernel, by decide +kernel, by decide +kernel⟩⟩
theorem mv_L_74 : MV RL 74 yX6_best cX6_best 9 (some .int) 2 := ⟨(tw3 27 rfl rfl), (tw3 28 rfl rfl), (tw3 29 rfl rfl), (tw1 1 rfl rfl), (tw3 30 rfl rfl), ⟨by decide +kernel, by decide +kernel, by decide +kernel⟩⟩
theorem mv_X6_155 : MV RX6 155 yX0_allKinds cX0_allKinds 1 (some .int) 0 := ⟨(tw3 31 rfl rfl), (tw3 32 rfl rfl), (tw3 33 rfl rfl), (tw1 4 rfl rfl), (tw3 34 rfl rfl), ⟨by decide +kernel, by decide +kernel, by decide +kernel⟩⟩
theorem mv_X6_158 : MV RX6 158 yX6_lossByKinds cX6_lossByKinds 3 (some .int) 2 := ⟨(tw3 35 rfl rfl), (tw3 37 rfl rfl), (tw0 16 rfl rfl), (tw1 1 rfl rfl), (tw3 38 rfl rfl), ⟨by decide +kernel, by decide +kernel, by decide +kernel⟩⟩
theorem mv_X6_268 : MV RX6 268 yX0_putKinds cX0_putKinds 3 none 1 := ⟨(tw3 39 rfl rfl), (tw3 40 rfl rfl), (tw3 41 rfl rfl), (tw1 4 rfl rfl), (tw3 42 rfl rfl), ⟨by decide +kernel, by decide +kernel, by decide +kernel⟩⟩
theorem mv_X0_65 : MV RX0 65 yX0_kindBy cX0_kindBy 3 (some .int) 2 := ⟨(tw3 43 rfl rfl), (tw3 44 rfl rfl), (tw3 45 rfl rfl), (tw1 4 rfl rfl), (tw3 46 rfl rfl), ⟨by decide +kernel, by decide +kernel, by decide +kernel⟩⟩
theorem mv_X6_172 : MV RX6 172 yX0_loss cX0_loss 1 (some .int) 0 := ⟨(tw3 47 rfl rfl), (tw3 48 rfl rfl), (tw3 49 rfl rfl), (tw1 4 rfl rfl), (tw3 50 rfl rfl), ⟨by decide +kernel, by decide +kernel, by decide +kernel⟩⟩
theorem mv_X6_161 : MV RX6 161 yX0_kindBy cX0_kindBy 3 (some .int) 2 := ⟨(tw3 51 rfl rfl), (tw3 44 rfl rfl), (tw3 45 rfl rfl), (tw1 4 rfl rfl), (tw3 46 rfl rfl), ⟨by decide +kernel, by decide +kernel, by decide +kernel⟩⟩
theorem mv_L_78 : MV RL 78 yX6_change cX6_change 8 (some .int) 2 := ⟨(tw3 52 rfl rfl), (tw3 53 rfl rfl), (tw3 54 rfl rfl), (tw1 1 rfl rfl), (tw3 55 rfl rfl), ⟨by decide +kernel, by decide +kernel, by decide +kernel⟩⟩
theorem mv_X6_164 : MV RX6 164 yX6_lossAsItIs cX6_lossAsItIs 2 (some .int) 1 := ⟨(tw3 56 rfl rfl), (tw3 58 rfl rfl), (tw0 17 rfl rfl), (tw1 1 rfl rfl), (tw3 59 rfl rfl), ⟨by decide +kernel, by decide +kernel, by decide +kernel⟩⟩
theorem mv_X6_168 : MV RX6 168 yX6_playWith cX6_playWith 4 (some (.object "FireLeave$City")) 3 := ⟨(tw3 60 rfl rfl), (tw3 62 rfl rfl), (tw0 18 rfl rfl), (tw1 1 rfl rfl), (tw3 63 rfl rfl), ⟨by decide +kernel, by decide +kernel, by decide +kernel⟩⟩
theorem mv_X6_271 : MV RX6 271 yX0_putKindIn cX0_putKindIn 4 none 2 := ⟨(tw3 64 rfl rfl), (tw3 65 rfl rfl), (tw3 66 rfl rfl), (tw1 4 rfl rfl), (tw3 67 rfl rfl), ⟨by decide +kernel, by decide +kernel, by decide +kernel⟩⟩
theorem mv_L_82 : MV RL 82 yX6_cooks cX6_cooks 7 (some .int) 2 := ⟨(tw3 68 rfl rfl), (tw3 69 rfl rfl), (tw3 70 rfl rfl), (tw1 1 rfl rfl), (tw3 71 rfl rfl), ⟨by decide +kernel, by decide +kernel, by decide +kernel⟩⟩
theorem mz_X6_175 : MS RX6 175 yJ6_bitCount_0f7a4 cJ6_bitCount_0f7a4 1 (some .int) 1 := ⟨(tw3 72 rfl rfl), (tw3 73 rfl rfl), (tw1 16 rfl rfl), (tw3 74 rfl rfl), ⟨by decide +kernel, by decide +kernel, by decide +kernel⟩⟩
theorem mv_L_86 : MV RL 86 yX6_appease cX6_appease 4 (some .int) 2 := ⟨(tw3 78 rfl rfl), (tw3 79 rfl rfl), (tw3 80 rfl rfl), (tw1 1 rfl rfl), (tw3 81 rfl rfl), ⟨by decide +kernel, by decide +kernel, by decide +kernel⟩⟩
theorem mv_L_90 : MV RL 90 yX6_pray cX6_pray 5 (some .int) 1 := ⟨(tw3 82 rfl rfl), (tw3 83 rfl rfl), (tw3 84 rfl rfl), (tw1 1 rfl rfl), (tw3 85 rfl rfl), ⟨by decide +kernel, by decide +kernel, by decide +kernel⟩⟩
theorem mv_L_94 : MV RL 94 yX6_value cX6_value 3 (some .int) 2 := ⟨(tw3 86 rfl rfl), (tw3 87 rfl rfl), (tw3 88 rfl rfl), (tw1 1 rfl rfl), (tw3 89 rfl rfl), ⟨by decide +kernel, by decide +kernel, by decide +kernel⟩⟩
theorem mv_L_98 : MV RL 98 yX6_share cX6_share 10 (some .long) 3 := ⟨(tw3 90 rfl rfl), (tw3 91 rfl rfl), (tw3 92 rfl rfl), (tw1 1 rfl rfl), (tw3 93 rfl rfl), ⟨by decide +kernel, by decide +kernel, by decide +kernel⟩⟩
theorem mz_X6_185 : MS RX6 185 yX6_factorial cX6_factorial 1 (some .long) 1 := ⟨(tw3 95 rfl rfl), (tw3 96 rfl rfl), (tw1 1 rfl rfl), (tw3 97 rfl rfl), ⟨by decide +kernel, by decide +kernel, by decide +kernel⟩⟩
theorem mz_X6_189 : MS RX6 189 yX6_partOfFraction cX6_partOfFraction 7 (some .long) 3 := ⟨(tw3 100 rfl rfl), (tw3 101 rfl rfl), (tw1 1 rfl rfl), (tw3 102 rfl rfl), ⟨by decide +kernel, by decide +kernel, by decide +kernel⟩⟩
theorem mz_X6_277 : MS RX6 277 yJ9_abs_067f4 cJ9_abs_067f4 2 (some .long) 1 := ⟨(tw3 103 rfl rfl), (tw3 104 rfl rfl), (tw1 13 rfl rfl), (tw3 105 rfl rfl), ⟨by decide +kernel, by decide +kernel, by decide +kernel⟩⟩
theorem mz_X6_283 : MS RX6 283 yX6_commonDivisor cX6_commonDivisor 11 (some .long) 2 := ⟨(tw3 106 rfl rfl), (tw3 107 rfl rfl), (tw1 1 rfl rfl), (tw3 108 rfl rfl), ⟨by decide +kernel, by decide +kernel, by decide +kernel⟩⟩
theorem mv_L_103 : MV RL 103 yX6_luck cX6_luck 7 (some .long) 3 := ⟨(tw3 109 rfl rfl), (tw3 110 rfl rfl), (tw3 111 rfl rfl), (tw1 1 rfl rfl), (tw3 112 rfl rfl), ⟨by decide +kernel, by decide +kernel, by decide +kernel⟩⟩
theorem mv_X6_193 : MV RX6 193 yX6_oddsOfOut cX6_oddsOfOut 4 (some .long) 2 := ⟨(tw3 113 rfl rfl), (tw3 115 rfl rfl), (tw0 19 rfl rfl), (tw1 1 rfl rfl), (tw3 116 rfl rfl), ⟨by decide +kernel, by decide +kernel, by decide +kernel⟩⟩
theorem mz_X6_197 : MS RX6 197 yX6_power cX6_power 5 (some .long) 2 := ⟨(tw3 117 rfl rfl), (tw3 118 rfl rfl), (tw1 1 rfl rfl), (tw3 119 rfl rfl), ⟨by decide +kernel, by decide +kernel, by decide +kernel⟩⟩
theorem mv_L_107 : MV RL 107 yX6_mean cX6_mean 7 (some .long) 3 := ⟨(tw3 120 rfl rfl), (tw3 121 rfl rfl), (tw3 122 rfl rfl), (tw1 1 rfl rfl), (tw3 123 rfl rfl), ⟨by decide +kernel, by decide +kernel, by decide +kernel⟩⟩
theorem mv_L_111 : MV RL 111 yX6_see cX6_see 4 (some .int) 3 := ⟨(tw3 124 rfl rfl), (tw3 125 rfl rfl), (tw3 126 rfl rfl), (tw1 1 rfl rfl), (tw3 127 rfl rfl), ⟨by decide +kernel, by decide +kernel, by decide +kernel⟩⟩
theorem mv_X6_200 : MV RX6 200 yX3_append cX3_append 4 (some .boolean) 3 := ⟨(tw3 128 rfl rfl), (tw3 129 rfl rfl), (tw3 130 rfl rfl), (tw1 5 rfl rfl), (tw3 131 rfl rfl), ⟨by decide +kernel, by decide +kernel, by decide +kernel⟩⟩
theorem mv_L_115 : MV RL 115 yX6_forget cX6_forget 3 (some .int) 1 := ⟨(tw3 132 rfl rfl), (tw3 133 rfl rfl), (tw3 134 rfl rfl), (tw1 1 rfl rfl), (tw3 135 rfl rfl), ⟨by decide +kernel, by decide +kernel, by decide +kernel⟩⟩
theorem mv_L_119 : MV RL 119 yX6_fits cX6_fits 9 (some .int) 1 := ⟨(tw3 136 rfl rfl), (tw3 137 rfl rfl), (tw3 138 rfl rfl), (tw1 1 rfl rfl), (tw3 139 rfl rfl), ⟨by decide +kernel, by decide +kernel, by decide +kernel⟩⟩
theorem mv_X6_202 : MV RX6 202 yX3_mostNights cX3_mostNights 3 (some .int) 0 := ⟨(tw3 140 rfl rfl), (tw3 141 rfl rfl), (tw3 142 rfl rfl), (tw1 5 rfl rfl), (tw3 143 rfl rfl), ⟨by decide +kernel, by decide +kernel, by decide +kernel⟩⟩
theorem mz_X3_31 : MS RX3 31 yJ9_max_7cf53 cJ9_max_7cf53 2 (some .int) 2 := ⟨(tw3 144 rfl rfl), (tw2 177 rfl rfl), (tw1 13 rfl rfl), (tw2 178 rfl rfl), ⟨by decide +kernel, by decide +kernel, by decide +kernel⟩⟩
theorem mv_X6_205 : MV RX6 205 yX6_tryKinds cX6_tryKinds 5 none 2 := ⟨(tw3 145 rfl rfl), (tw3 147 rfl rfl), (tw0 20 rfl rfl), (tw1 1 rfl rfl), (tw3 148 rfl rfl), ⟨by decide +kernel, by decide +kernel, by decide +kernel⟩⟩
theorem mz_X6_216 : MS RX6 216 yX6_slot cX6_slot 2 (some .int) 2 := ⟨(tw3 149 rfl rfl), (tw3 150 rfl rfl), (tw1 1 rfl rfl), (tw3 151 rfl rfl), ⟨by decide +kernel, by decide +kernel, by decide +kernel⟩⟩
theorem mv_X6_209 : MV RX6 209 yX3_agreesWith cX3_agreesWith 3 (some .boolean) 1 := ⟨(tw3 152 rfl rfl), (tw3 153 rfl rfl), (tw3 154 rfl rfl), (tw1 5 rfl rfl), (tw3 155 rfl rfl), ⟨by decide +kernel, by decide +kernel, by decide +kernel⟩⟩
theorem mn_X3_37 : MN RX3 37 yX6_slot "FireLeave" cX6_slot 2 (some .int) 2 := ⟨(tq3 156 rfl), (tw3 150 rfl rfl), (tw1 1 rfl rfl), (tw3 151 rfl rfl), ⟨by decide +kernel, by decide +kernel, by decide +kernel⟩⟩
theorem mv_L_123 : MV RL 123 yX6_look cX6_look 7 (some .int) 1 := ⟨(tw3 157 rfl rfl), (tw3 158 rfl rfl), (tw3 159 rfl rfl), (tw1 1 rfl rfl), (tw3 160 rfl rfl), ⟨by decide +kernel, by decide +kernel, by decide +kernel⟩⟩
theorem mv_X6_213 : MV RX6 213 yX6_tallyFitting cX6_tallyFitting 6 (some .int) 0 := ⟨(tw3 161 rfl rfl), (tw3 163 rfl rfl), (tw0 21 rfl rfl), (tw1 1 rfl rfl), (tw3 164 rfl rfl), ⟨by decide +kernel, by decide +kernel, by decide +kernel⟩⟩
theorem mz_X6_287 : MS RX6 287 yJ7_fill_53178 cJ7_fill_53178 4 none 2 := ⟨(tw3 165 rfl rfl), (tw3 16 rfl rfl), (tw1 15 rfl rfl), (tw3 17 rfl rfl), ⟨by decide +kernel, by decide +kernel, by decide +kernel⟩⟩
theorem mv_X6_219 : MV RX6 219 yX6_mostInRow cX6_mostInRow 5 (some .int) 1 := ⟨(tw3 166 rfl rfl), (tw3 168 rfl rfl), (tw0 22 rfl rfl), (tw1 1 rfl rfl), (tw3 169 rfl rfl), ⟨by decide +kernel, by decide +kernel, by decide +kernel⟩⟩
theorem mz_X6_293 : MS RX6 293 yJ9_max_7cf53 cJ9_max_7cf53 2 (some .int) 2 := ⟨(tw3 170 rfl rfl), (tw2 177 rfl rfl), (tw1 13 rfl rfl), (tw2 178 rfl rfl), ⟨by decide +kernel, by decide +kernel, by decide +kernel⟩⟩
theorem mv_L_127 : MV RL 127 yX6_drift cX6_drift 7 (some .int) 3 := ⟨(tw3 171 rfl rfl), (tw3 172 rfl rfl), (tw3 173 rfl rfl), (tw1 1 rfl rfl), (tw3 174 rfl rfl), ⟨by decide +kernel, by decide +kernel, by decide +kernel⟩⟩
theorem mv_X6_223 : MV RX6 223 yX0_putKind cX0_putKind 3 none 2 := ⟨(tw3 176 rfl rfl), (tw3 177 rfl rfl), (tw3 178 rfl rfl), (tw1 4 rfl rfl), (tw3 179 rfl rfl), ⟨by decide +kernel, by decide +kernel, by decide +kernel⟩⟩
theorem mv_X6_226 : MV RX6 226 yX0_ask cX0_ask 3 none 0 := ⟨(tw3 180 rfl rfl), (tw2 233 rfl rfl), (tw2 234 rfl rfl), (tw1 4 rfl rfl), (tw2 235 rfl rfl), ⟨by decide +kernel, by decide +kernel, by decide +kernel⟩⟩
theorem mv_L_131 : MV RL 131 yX6_keep cX6_keep 4 (some .int) 1 := ⟨(tw3 181 rfl rfl), (tw3 182 rfl rfl), (tw3 183 rfl rfl), (tw1 1 rfl rfl), (tw3 184 rfl rfl), ⟨by decide +kernel, by decide +kernel, by decide +kernel⟩⟩
theorem mv_X6_233 : MV RX6 233 yX3_becomeLike cX3_becomeLike 2 none 1 := ⟨(tw3 185 rfl rfl), (tw3 186 rfl rfl), (tw3 187 rfl rfl), (tw1 5 rfl rfl), (tw3 188 rfl rfl), ⟨by decide +kernel, by decide +kernel, by decide +kernel⟩⟩
theorem mv_L_135 : MV RL 135 yX6_back cX6_back 3 (some .int) 1 := ⟨(tw3 190 rfl rfl), (tw3 191 rfl rfl), (tw3 192 rfl rfl), (tw1 1 rfl rfl), (tw3 193 rfl rfl), ⟨by decide +kernel, by decide +kernel, by decide +kernel⟩⟩
theorem mv_L_139 : MV RL 139 yX6_sheet cX6_sheet 4 (some .int) 3 := ⟨(tw3 194 rfl rfl), (tw3 195 rfl rfl), (tw3 196 rfl rfl), (tw1 1 rfl rfl), (tw3 197 rfl rfl), ⟨by decide +kernel, by decide +kernel, by decide +kernel⟩⟩
theorem mv_X6_236 : MV RX6 236 yX2_renew cX2_renew 3 none 2 := ⟨(tw3 198 rfl rfl), (tw3 199 rfl rfl), (tw3 200 rfl rfl), (tw1 7 rfl rfl), (tw3 201 rfl rfl), ⟨by decide +kernel, by decide +kernel, by decide +kernel⟩⟩
theorem mz_X2_15 : MS RX2 15 yJ7_fill_53178 cJ7_fill_53178 4 none 2 := ⟨(tw3 202 rfl rfl), (tw3 16 rfl rfl), (tw1 15 rfl rfl), (tw3 17 rfl rfl), ⟨by decide +kernel, by decide +kernel, by decide +kernel⟩⟩
theorem mv_L_143 : MV RL 143 yX6_lay cX6_lay 6 (some .int) 3 := ⟨(tw3 203 rfl rfl), (tw3 204 rfl rfl), (tw3 205 rfl rfl), (tw1 1 rfl rfl), (tw3 206 rfl rfl), ⟨by decide +kernel, by decide +kernel, by decide +kernel⟩⟩
theorem mv_X6_242 : MV RX6 242 yX2_tearAt cX2_tearAt 3 (some .int) 2 := ⟨(tw3 207 rfl rfl), (tw3 208 rfl rfl), (tw3 209 rfl rfl), (tw1 7 rfl rfl), (tw3 210 rfl rfl), ⟨by decide +kernel, by decide +kernel, by decide +kernel⟩⟩
theorem mn_X2_32 : MN RX2 32 yX6_outside "FireLeave" cX6_outside 3 (some .boolean) 3 := ⟨(tq3 211 rfl), (tw2 12 rfl rfl), (tw1 1 rfl rfl), (tw2 13 rfl rfl), ⟨by decide +kernel, by decide +kernel, by decide +kernel⟩⟩
theorem mv_X6_245 : MV RX6 245 yX2_put cX2_put 3 none 2 := ⟨(tw3 212 rfl rfl), (tw3 213 rfl rfl), (tw3 214 rfl rfl), (tw1 7 rfl rfl), (tw3 215 rfl rfl), ⟨by decide +kernel, by decide +kernel, by decide +kernel⟩⟩
theorem mv_L_147 : MV RL 147 yX6_read cX6_read 9 (some .int) 4 := ⟨(tw3 216 rfl rfl), (tw3 217 rfl rfl), (tw3 218 rfl rfl), (tw1 1 rfl rfl), (tw3 219 rfl rfl), ⟨by decide +kernel, by decide +kernel, by decide +kernel⟩⟩
theorem mv_X6_248 : MV RX6 248 yX2_tearOfPair cX2_tearOfPair 4 (some .int) 2 := ⟨(tw3 220 rfl rfl), (tw3 221 rfl rfl), (tw3 222 rfl rfl), (tw1 7 rfl rfl), (tw3 223 rfl rfl), ⟨by decide +kernel, by decide +kernel, by decide +kernel⟩⟩
theorem mv_X2_36 : MV RX2 36 yX2_tearAt cX2_tearAt 3 (some .int) 2 := ⟨(tw3 224 rfl rfl), (tw3 208 rfl rfl), (tw3 209 rfl rfl), (tw1 7 rfl rfl), (tw3 210 rfl rfl), ⟨by decide +kernel, by decide +kernel, by decide +kernel⟩⟩
theorem mv_X6_251 : MV RX6 251 yX2_cellAt cX2_cellAt 2 (some .int) 1 := ⟨(tw3 225 rfl rfl), (tw3 226 rfl rfl), (tw3 227 rfl rfl), (tw1 7 rfl rfl), (tw3 228 rfl rfl), ⟨by decide +kernel, by decide +kernel, by decide +kernel⟩⟩
theorem mv_L_152 : MV RL 152 yX6_torn cX6_torn 1 (some .int) 0 := ⟨(tw3 229 rfl rfl), (tw3 230 rfl rfl), (tw3 231 rfl rfl), (tw1 1 rfl rfl), (tw3 232 rfl rfl), ⟨by decide +kernel, by decide +kernel, by decide +kernel⟩⟩
theorem mv_L_156 : MV RL 156 yX6_count cX6_count 2 (some .int) 1 := ⟨(tw3 233 rfl rfl), (tw3 234 rfl rfl), (tw3 235 rfl rfl), (tw1 1 rfl rfl), (tw3 236 rfl rfl), ⟨by decide +kernel, by decide +kernel, by decide +kernel⟩⟩
theorem mv_X6_257 : MV RX6 257 yX0_allLost cX0_allLost 3 (some .int) 0 := ⟨(tw3 237 rfl rfl), (tw3 238 rfl rfl), (tw3 239 rfl rfl), (tw1 4 rfl rfl), (tw4 0 rfl rfl), ⟨by decide +kernel, by decide +kernel, by decide +kernel⟩⟩
theorem mv_X6_260 : MV RX6 260 yX6_imagesKept cX6_imagesKept 3 (some .int) 0 := ⟨(tw4 1 rfl rfl), (tw4 3 rfl rfl), (tw0 23 rfl rfl), (tw1 1 rfl rfl), (tw4 4 rfl rfl), ⟨by decide +kernel, by decide +kernel, by decide +kernel⟩⟩
theorem mv_X7_47 : MV RX7 47 yX7_firstDraft cX7_firstDraft 2 none 0 := ⟨(tw4 11 rfl rfl), (tw4 13 rfl rfl), (tw0 24 rfl rfl), (tw1 8 rfl rfl), (tw4 14 rfl rfl), ⟨by decide +kernel, by decide +kernel, by decide +kernel⟩⟩
theorem mv_X7_50 : MV RX7 50 yX7_keepDraft cX7_keepDraft 2 none 0 := ⟨(tw4 15 rfl rfl), (tw4 17 rfl rfl), (tw0 25 rfl rfl), (tw1 8 rfl rfl), (tw4 18 rfl rfl), ⟨by decide +kernel, by decide +kernel, by decide +kernel⟩⟩
theorem mv_L_17 : MV RL 17 yX7_feed cX7_feed 2 (some .int) 1 := ⟨(tw4 105 rfl rfl), (tw4 106 rfl rfl), (tw4 107 rfl rfl), (tw1 8 rfl rfl), (tw4 108 rfl rfl), ⟨by decide +kernel, by decide +kernel, by decide +kernel⟩⟩
theorem mz_X7_72 : MS RX7 72 yX7_in cX7_in 6 (some .boolean) 3 := ⟨(tw4 110 rfl rfl), (tw4 111 rfl rfl), (tw1 8 rfl rfl), (tw4 112 rfl rfl), ⟨by decide +kernel, by decide +kernel, by decide +kernel⟩⟩
theorem mv_L_21 : MV RL 21 yX7_end cX7_end 3 (some .int) 1 := ⟨(tw4 113 rfl rfl), (tw4 114 rfl rfl), (tw4 115 rfl rfl), (tw1 8 rfl rfl), (tw4 116 rfl rfl), ⟨by decide +kernel, by decide +kernel, by decide +kernel⟩⟩
theorem mv_L_26 : MV RL 26 yX7_text cX7_text 2 (some .int) 0 := ⟨(tw4 117 rfl rfl), (tw4 118 rfl rfl), (tw4 119 rfl rfl), (tw1 8 rfl rfl), (tw4 120 rfl rfl), ⟨by decide +kernel, by decide +kernel, by decide +kernel⟩⟩
theorem mv_X7_125 : MV RX7 125 yX7_next cX7_next 2 none 0 := ⟨(tw4 121 rfl rfl), (tw4 123 rfl rfl), (tw0 26 rfl rfl), (tw1 8 rfl rfl), (tw4 124 rfl rfl), ⟨by decide +kernel, by decide +kernel, by decide +kernel⟩⟩
theorem mv_X7_91 : MV RX7 91 yX7_byteAt cX7_byteAt 2 (some .int) 1 := ⟨(tw4 125 rfl rfl), (tw4 127 rfl rfl), (tw0 27 rfl rfl), (tw1 8 rfl rfl), (tw4 128 rfl rfl), ⟨by decide +kernel, by decide +kernel, by decide +kernel⟩⟩
theorem mv_X7_117 : MV RX7 117 yX7_needs cX7_needs 3 none 2 := ⟨(tw4 133 rfl rfl), (tw4 135 rfl rfl), (tw0 28 rfl rfl), (tw1 8 rfl rfl), (tw4 136 rfl rfl), ⟨by decide +kernel, by decide +kernel, by decide +kernel⟩⟩
theorem mv_X7_145 : MV RX7 145 yX7_readLine cX7_readLine 2 none 0 := ⟨(tw4 137 rfl rfl), (tw4 139 rfl rfl), (tw0 29 rfl rfl), (tw1 8 rfl rfl), (tw4 140 rfl rfl), ⟨by decide +kernel, by decide +kernel, by decide +kernel⟩⟩
theorem mv_X7_138 : MV RX7 138 yX7_lineNow cX7_lineNow 1 (some .int) 0 := ⟨(tw4 141 rfl rfl), (tw4 143 rfl rfl), (tw0 30 rfl rfl), (tw1 8 rfl rfl), (tw4 144 rfl rfl), ⟨by decide +kernel, by decide +kernel, by decide +kernel⟩⟩
theorem mv_X7_95 : MV RX7 95 yX7_is cX7_is 5 (some .boolean) 4 := ⟨(tw4 145 rfl rfl), (tw4 147 rfl rfl), (tw0 31 rfl rfl), (tw1 8 rfl rfl), (tw4 148 rfl rfl), ⟨by decide +kernel, by decide +kernel, by decide +kernel⟩⟩
theorem mv_X7_99 : MV RX7 99 yX7_ends cX7_ends 4 (some .boolean) 3 := ⟨(tw4 149 rfl rfl), (tw4 151 rfl rfl), (tw0 32 rfl rfl), (tw1 8 rfl rfl), (tw4 152 rfl rfl), ⟨by decide +kernel, by decide +kernel, by decide +kernel⟩⟩
theorem mv_X7_141 : MV RX7 141 yX7_readLineOf cX7_readLineOf 2 none 1 := ⟨(tw4 153 rfl rfl), (tw4 155 rfl rfl), (tw0 33 rfl rfl), (tw1 8 rfl rfl), (tw4 156 rfl rfl), ⟨by decide +kernel, by decide +kernel, by decide +kernel⟩⟩
theorem mv_X7_131 : MV RX7 131 yX7_readHouse cX7_readHouse 2 (some .int) 0 := ⟨(tw4 157 rfl rfl), (tw4 159 rfl rfl), (tw0 34 rfl rfl), (tw1 8 rfl rfl), (tw4 160 rfl rfl), ⟨by decide +kernel, by decide +kernel, by decide +kernel⟩⟩
theorem mv_X7_128 : MV RX7 128 yX7_readNumber cX7_readNumber 4 (some .int) 2 := ⟨(tw4 161 rfl rfl), (tw4 163 rfl rfl), (tw0 35 rfl rfl), (tw1 8 rfl rfl), (tw4 164 rfl rfl), ⟨by decide +kernel, by decide +kernel, by decide +kernel⟩⟩
theorem mv_X7_121 : MV RX7 121 yX7_looked cX7_looked 3 (some .int) 2 := ⟨(tw4 165 rfl rfl), (tw4 167 rfl rfl), (tw0 36 rfl rfl), (tw1 8 rfl rfl), (tw4 168 rfl rfl), ⟨by decide +kernel, by decide +kernel, by decide +kernel⟩⟩
theorem mv_X7_135 : MV RX7 135 yX7_readRain cX7_readRain 2 none 0 := ⟨(tw4 169 rfl rfl), (tw4 171 rfl rfl), (tw0 37 rfl rfl), (tw1 8 rfl rfl), (tw4 172 rfl rfl), ⟨by decide +kernel, by decide +kernel, by decide +kernel⟩⟩
theorem mv_X7_148 : MV RX7 148 yX7_offersCome cX7_offersCome 4 none 0 := ⟨(tw4 173 rfl rfl), (tw4 175 rfl rfl), (tw0 38 rfl rfl), (tw1 8 rfl rfl), (tw4 176 rfl rfl), ⟨by decide +kernel, by decide +kernel, by decide +kernel⟩⟩
theorem mv_L_30 : MV RL 30 yX7_fault cX7_fault 1 (some .int) 0 := ⟨(tw4 177 rfl rfl), (tw4 178 rfl rfl), (tw4 179 rfl rfl), (tw1 8 rfl rfl), (tw4 180 rfl rfl), ⟨by decide +kernel, by decide +kernel, by decide +kernel⟩⟩
theorem mv_L_34 : MV RL 34 yX7_rule cX7_rule 2 (some .int) 1 := ⟨(tw4 181 rfl rfl), (tw4 182 rfl rfl), (tw4 183 rfl rfl), (tw1 8 rfl rfl), (tw4 184 rfl rfl), ⟨by decide +kernel, by decide +kernel, by decide +kernel⟩⟩
theorem mv_X7_170 : MV RX7 170 yX7_starts cX7_starts 2 none 0 := ⟨(tw4 185 rfl rfl), (tw4 187 rfl rfl), (tw0 39 rfl rfl), (tw1 8 rfl rfl), (tw4 188 rfl rfl), ⟨by decide +kernel, by decide +kernel, by decide +kernel⟩⟩
theorem mv_X7_173 : MV RX7 173 yX7_allOf cX7_allOf 4 (some .int) 1 := ⟨(tw4 189 rfl rfl), (tw4 191 rfl rfl), (tw0 40 rfl rfl), (tw1 8 rfl rfl), (tw4 192 rfl rfl), ⟨by decide +kernel, by decide +kernel, by decide +kernel⟩⟩
theorem mv_L_39 : MV RL 39 yX7_house cX7_house 3 (some .int) 2 := ⟨(tw4 193 rfl rfl), (tw4 194 rfl rfl), (tw4 195 rfl rfl), (tw1 8 rfl rfl), (tw4 196 rfl rfl), ⟨by decide +kernel, by decide +kernel, by decide +kernel⟩⟩
theorem mv_X7_176 : MV RX7 176 yX7_isHouse cX7_isHouse 2 (some .boolean) 1 := ⟨(tw4 197 rfl rfl), (tw4 199 rfl rfl), (tw0 41 rfl rfl), (tw1 8 rfl rfl), (tw4 200 rfl rfl), ⟨by decide +kernel, by decide +kernel, by decide +kernel⟩⟩
theorem mv_L_44 : MV RL 44 yX7_alter cX7_alter 4 (some .int) 3 := ⟨(tw4 202 rfl rfl), (tw4 203 rfl rfl), (tw4 204 rfl rfl), (tw1 8 rfl rfl), (tw4 205 rfl rfl), ⟨by decide +kernel, by decide +kernel, by decide +kernel⟩⟩
theorem mz_X7_182 : MS RX7 182 yX7_isPart cX7_isPart 1 (some .boolean) 1 := ⟨(tw4 206 rfl rfl), (tw4 207 rfl rfl), (tw1 8 rfl rfl), (tw4 208 rfl rfl), ⟨by decide +kernel, by decide +kernel, by decide +kernel⟩⟩
theorem mv_X7_189 : MV RX7 189 yX7_becomes cX7_becomes 4 (some .int) 2 := ⟨(tw4 211 rfl rfl), (tw4 213 rfl rfl), (tw0 42 rfl rfl), (tw1 8 rfl rfl), (tw4 214 rfl rfl), ⟨by decide +kernel, by decide +kernel, by decide +kernel⟩⟩
theorem mv_L_48 : MV RL 48 yX7_set cX7_set 4 (some .int) 2 := ⟨(tw4 215 rfl rfl), (tw4 216 rfl rfl), (tw4 217 rfl rfl), (tw1 8 rfl rfl), (tw4 218 rfl rfl), ⟨by decide +kernel, by decide +kernel, by decide +kernel⟩⟩
theorem mv_L_53 : MV RL 53 yX7_rain cX7_rain 4 (some .int) 2 := ⟨(tw4 221 rfl rfl), (tw4 222 rfl rfl), (tw4 223 rfl rfl), (tw1 8 rfl rfl), (tw4 224 rfl rfl), ⟨by decide +kernel, by decide +kernel, by decide +kernel⟩⟩
theorem mv_L_57 : MV RL 57 yX7_offer cX7_offer 3 (some .int) 2 := ⟨(tw4 226 rfl rfl), (tw4 227 rfl rfl), (tw4 228 rfl rfl), (tw1 8 rfl rfl), (tw4 229 rfl rfl), ⟨by decide +kernel, by decide +kernel, by decide +kernel⟩⟩
theorem mv_X7_157 : MV RX7 157 yX7_gives cX7_gives 3 none 2 := ⟨(tw4 230 rfl rfl), (tw4 232 rfl rfl), (tw0 43 rfl rfl), (tw1 8 rfl rfl), (tw4 233 rfl rfl), ⟨by decide +kernel, by decide +kernel, by decide +kernel⟩⟩
theorem mv_X7_198 : MV RX7 198 yX7_settles cX7_settles 2 none 0 := ⟨(tw4 234 rfl rfl), (tw4 236 rfl rfl), (tw0 44 rfl rfl), (tw1 8 rfl rfl), (tw4 237 rfl rfl), ⟨by decide +kernel, by decide +kernel, by decide +kernel⟩⟩
theorem mv_L_61 : MV RL 61 yX7_go cX7_go 3 (some .int) 1 := ⟨(tw4 238 rfl rfl), (tw4 239 rfl rfl), (tw5 0 rfl rfl), (tw1 8 rfl rfl), (tw5 1 rfl rfl), ⟨by decide +kernel, by decide +kernel, by decide +kernel⟩⟩
theorem mv_X7_167 : MV RX7 167 yX7_nightsGo cX7_nightsGo 3 none 1 := ⟨(tw5 3 rfl rfl), (tw5 5 rfl rfl), (tw0 45 rfl rfl), (tw1 8 rfl rfl), (tw5 6 rfl rfl), ⟨by decide +kernel, by decide +kernel, by decide +kernel⟩⟩
theorem mv_X7_164 : MV RX7 164 yX7_nightGoes cX7_nightGoes 1 none 0 := ⟨(tw5 7 rfl rfl), (tw5 9 rfl rfl), (tw0 46 rfl rfl), (tw1 8 rfl rfl), (tw5 10 rfl rfl), ⟨by decide +kernel, by decide +kernel, by decide +kernel⟩⟩
theorem mv_X7_161 : MV RX7 161 yX7_asks cX7_asks 4 none 0 := ⟨(tw5 11 rfl rfl), (tw5 13 rfl rfl), (tw0 47 rfl rfl), (tw1 8 rfl rfl), (tw5 14 rfl rfl), ⟨by decide +kernel, by decide +kernel, by decide +kernel⟩⟩
theorem mz_X7_151 : MS RX7 151 yX7_lesser cX7_lesser 2 (some .int) 2 := ⟨(tw5 15 rfl rfl), (tw5 16 rfl rfl), (tw1 8 rfl rfl), (tw5 17 rfl rfl), ⟨by decide +kernel, by decide +kernel, by decide +kernel⟩⟩
theorem mv_X7_154 : MV RX7 154 yX7_burns cX7_burns 4 (some .int) 2 := ⟨(tw5 18 rfl rfl), (tw5 20 rfl rfl), (tw0 48 rfl rfl), (tw1 8 rfl rfl), (tw5 21 rfl rfl), ⟨by decide +kernel, by decide +kernel, by decide +kernel⟩⟩
theorem mv_L_65 : MV RL 65 yX7_runs cX7_runs 5 (some .int) 2 := ⟨(tw5 22 rfl rfl), (tw5 23 rfl rfl), (tw5 24 rfl rfl), (tw1 8 rfl rfl), (tw5 25 rfl rfl), ⟨by decide +kernel, by decide +kernel, by decide +kernel⟩⟩
theorem mv_L_69 : MV RL 69 yX7_ahead cX7_ahead 3 (some .int) 2 := ⟨(tw5 27 rfl rfl), (tw5 28 rfl rfl), (tw5 29 rfl rfl), (tw1 8 rfl rfl), (tw5 30 rfl rfl), ⟨by decide +kernel, by decide +kernel, by decide +kernel⟩⟩
theorem mv_L_73 : MV RL 73 yX7_bare cX7_bare 3 (some .int) 1 := ⟨(tw5 31 rfl rfl), (tw5 32 rfl rfl), (tw5 33 rfl rfl), (tw1 8 rfl rfl), (tw5 34 rfl rfl), ⟨by decide +kernel, by decide +kernel, by decide +kernel⟩⟩
theorem mv_L_77 : MV RL 77 yX7_best cX7_best 7 (some .int) 2 := ⟨(tw5 35 rfl rfl), (tw5 36 rfl rfl), (tw5 37 rfl rfl), (tw1 8 rfl rfl), (tw5 38 rfl rfl), ⟨by decide +kernel, by decide +kernel, by decide +kernel⟩⟩
theorem mv_X7_206 : MV RX7 206 yX7_numbers cX7_numbers 1 (some .int) 0 := ⟨(tw5 40 rfl rfl), (tw5 42 rfl rfl), (tw0 49 rfl rfl), (tw1 8 rfl rfl), (tw5 43 rfl rfl), ⟨by decide +kernel, by decide +kernel, by decide +kernel⟩⟩
theorem mv_X7_209 : MV RX7 209 yX7_startsBy cX7_startsBy 4 none 1 := ⟨(tw5 44 rfl rfl), (tw5 46 rfl rfl), (tw0 50 rfl rfl), (tw1 8 rfl rfl), (tw5 47 rfl rfl), ⟨by decide +kernel, by decide +kernel, by decide +kernel⟩⟩
theorem mv_X7_212 : MV RX7 212 yX7_lossOf cX7_lossOf 3 (some .int) 1 := ⟨(tw5 48 rfl rfl), (tw5 50 rfl rfl), (tw0 51 rfl rfl), (tw1 8 rfl rfl), (tw5 51 rfl rfl), ⟨by decide +kernel, by decide +kernel, by decide +kernel⟩⟩
theorem mv_L_81 : MV RL 81 yX7_change cX7_change 8 (some .int) 2 := ⟨(tw5 52 rfl rfl), (tw5 53 rfl rfl), (tw5 54 rfl rfl), (tw1 8 rfl rfl), (tw5 55 rfl rfl), ⟨by decide +kernel, by decide +kernel, by decide +kernel⟩⟩
theorem mv_L_85 : MV RL 85 yX7_cooks cX7_cooks 8 (some .int) 2 := ⟨(tw5 56 rfl rfl), (tw5 57 rfl rfl), (tw5 58 rfl rfl), (tw1 8 rfl rfl), (tw5 59 rfl rfl), ⟨by decide +kernel, by decide +kernel, by decide +kernel⟩⟩
theorem mz_X7_215 : MS RX7 215 yX7_flag cX7_flag 1 (some .int) 1 := ⟨(tw5 60 rfl rfl), (tw5 61 rfl rfl), (tw1 8 rfl rfl), (tw5 62 rfl rfl), ⟨by decide +kernel, by decide +kernel, by decide +kernel⟩⟩
theorem mz_X7_219 : MS RX7 219 yX7_bitsOf cX7_bitsOf 3 (some .int) 1 := ⟨(tw5 63 rfl rfl), (tw5 64 rfl rfl), (tw1 8 rfl rfl), (tw5 65 rfl rfl), ⟨by decide +kernel, by decide +kernel, by decide +kernel⟩⟩
theorem mv_X7_222 : MV RX7 222 yX7_startsWithCooks cX7_startsWithCooks 3 none 1 := ⟨(tw5 66 rfl rfl), (tw5 68 rfl rfl), (tw0 52 rfl rfl), (tw1 8 rfl rfl), (tw5 69 rfl rfl), ⟨by decide +kernel, by decide +kernel, by decide +kernel⟩⟩
theorem mv_L_89 : MV RL 89 yX7_appease cX7_appease 9 (some .int) 2 := ⟨(tw5 70 rfl rfl), (tw5 71 rfl rfl), (tw5 72 rfl rfl), (tw1 8 rfl rfl), (tw5 73 rfl rfl), ⟨by decide +kernel, by decide +kernel, by decide +kernel⟩⟩
theorem mv_L_93 : MV RL 93 yX7_pray cX7_pray 5 (some .int) 1 := ⟨(tw5 74 rfl rfl), (tw5 75 rfl rfl), (tw5 76 rfl rfl), (tw1 8 rfl rfl), (tw5 77 rfl rfl), ⟨by decide +kernel, by decide +kernel, by decide +kernel⟩⟩
theorem mv_L_97 : MV RL 97 yX7_value cX7_value 3 (some .int) 2 := ⟨(tw5 78 rfl rfl), (tw5 79 rfl rfl), (tw5 80 rfl rfl), (tw1 8 rfl rfl), (tw5 81 rfl rfl), ⟨by decide +kernel, by decide +kernel, by decide +kernel⟩⟩
theorem mv_X7_225 : MV RX7 225 yX7_valueOf cX7_valueOf 4 (some .int) 2 := ⟨(tw5 82 rfl rfl), (tw5 84 rfl rfl), (tw0 53 rfl rfl), (tw1 8 rfl rfl), (tw5 85 rfl rfl), ⟨by decide +kernel, by decide +kernel, by decide +kernel⟩⟩
theorem mv_L_102 : MV RL 102 yX7_share cX7_share 8 (some .long) 3 := ⟨(tw5 86 rfl rfl), (tw5 87 rfl rfl), (tw5 88 rfl rfl), (tw1 8 rfl rfl), (tw5 89 rfl rfl), ⟨by decide +kernel, by decide +kernel, by decide +kernel⟩⟩
theorem mz_X7_234 : MS RX7 234 yX7_orders cX7_orders 4 (some .long) 1 := ⟨(tw5 91 rfl rfl), (tw5 92 rfl rfl), (tw1 8 rfl rfl), (tw5 93 rfl rfl), ⟨by decide +kernel, by decide +kernel, by decide +kernel⟩⟩
theorem mz_X7_238 : MS RX7 238 yX7_told cX7_told 7 (some .long) 3 := ⟨(tw5 94 rfl rfl), (tw5 95 rfl rfl), (tw1 8 rfl rfl), (tw5 96 rfl rfl), ⟨by decide +kernel, by decide +kernel, by decide +kernel⟩⟩
theorem mz_X7_228 : MS RX7 228 yX7_common cX7_common 10 (some .long) 2 := ⟨(tw5 97 rfl rfl), (tw5 98 rfl rfl), (tw1 8 rfl rfl), (tw5 99 rfl rfl), ⟨by decide +kernel, by decide +kernel, by decide +kernel⟩⟩
theorem mv_L_106 : MV RL 106 yX7_luck cX7_luck 4 (some .long) 3 := ⟨(tw5 100 rfl rfl), (tw5 101 rfl rfl), (tw5 102 rfl rfl), (tw1 8 rfl rfl), (tw5 103 rfl rfl), ⟨by decide +kernel, by decide +kernel, by decide +kernel⟩⟩
theorem mv_X7_254 : MV RX7 254 yX7_findOdds cX7_findOdds 8 none 2 := ⟨(tw5 105 rfl rfl), (tw5 107 rfl rfl), (tw0 54 rfl rfl), (tw1 8 rfl rfl), (tw5 108 rfl rfl), ⟨by decide +kernel, by decide +kernel, by decide +kernel⟩⟩
theorem mv_L_110 : MV RL 110 yX7_mean cX7_mean 4 (some .long) 3 := ⟨(tw5 109 rfl rfl), (tw5 110 rfl rfl), (tw5 111 rfl rfl), (tw1 8 rfl rfl), (tw5 112 rfl rfl), ⟨by decide +kernel, by decide +kernel, by decide +kernel⟩⟩
theorem mv_L_114 : MV RL 114 yX7_see cX7_see 5 (some .int) 3 := ⟨(tw5 113 rfl rfl), (tw5 114 rfl rfl), (tw5 115 rfl rfl), (tw1 8 rfl rfl), (tw5 116 rfl rfl), ⟨by decide +kernel, by decide +kernel, by decide +kernel⟩⟩
theorem mv_L_118 : MV RL 118 yX7_forget cX7_forget 2 (some .int) 1 := ⟨(tw5 117 rfl rfl), (tw5 118 rfl rfl), (tw5 119 rfl rfl), (tw1 8 rfl rfl), (tw5 120 rfl rfl), ⟨by decide +kernel, by decide +kernel, by decide +kernel⟩⟩
theorem mv_L_122 : MV RL 122 yX7_fits cX7_fits 6 (some .int) 1 := ⟨(tw5 121 rfl rfl), (tw5 122 rfl rfl), (tw5 123 rfl rfl), (tw1 8 rfl rfl), (tw5 124 rfl rfl), ⟨by decide +kernel, by decide +kernel, by decide +kernel⟩⟩
theorem mv_X7_257 : MV RX7 257 yX7_isFit cX7_isFit 5 (some .boolean) 1 := ⟨(tw5 125 rfl rfl), (tw5 127 rfl rfl), (tw0 55 rfl rfl), (tw1 8 rfl rfl), (tw5 128 rfl rfl), ⟨by decide +kernel, by decide +kernel, by decide +kernel⟩⟩
theorem mv_L_126 : MV RL 126 yX7_look cX7_look 9 (some .int) 1 := ⟨(tw5 129 rfl rfl), (tw5 130 rfl rfl), (tw5 131 rfl rfl), (tw1 8 rfl rfl), (tw5 132 rfl rfl), ⟨by decide +kernel, by decide +kernel, by decide +kernel⟩⟩
theorem mv_L_130 : MV RL 130 yX7_drift cX7_drift 7 (some .int) 3 := ⟨(tw5 133 rfl rfl), (tw5 134 rfl rfl), (tw5 135 rfl rfl), (tw1 8 rfl rfl), (tw5 136 rfl rfl), ⟨by decide +kernel, by decide +kernel, by decide +kernel⟩⟩
theorem mv_L_134 : MV RL 134 yX7_keep cX7_keep 3 (some .int) 1 := ⟨(tw5 139 rfl rfl), (tw5 140 rfl rfl), (tw5 141 rfl rfl), (tw1 8 rfl rfl), (tw5 142 rfl rfl), ⟨by decide +kernel, by decide +kernel, by decide +kernel⟩⟩
theorem mv_X7_263 : MV RX7 263 yX7_copies cX7_copies 4 none 2 := ⟨(tw5 143 rfl rfl), (tw5 145 rfl rfl), (tw0 56 rfl rfl), (tw1 8 rfl rfl), (tw5 146 rfl rfl), ⟨by decide +kernel, by decide +kernel, by decide +kernel⟩⟩
theorem mv_L_138 : MV RL 138 yX7_back cX7_back 2 (some .int) 1 := ⟨(tw5 147 rfl rfl), (tw5 148 rfl rfl), (tw5 149 rfl rfl), (tw1 8 rfl rfl), (tw5 150 rfl rfl), ⟨by decide +kernel, by decide +kernel, by decide +kernel⟩⟩
theorem mv_L_142 : MV RL 142 yX7_sheet cX7_sheet 5 (some .int) 3 := ⟨(tw5 151 rfl rfl), (tw5 152 rfl rfl), (tw5 153 rfl rfl), (tw1 8 rfl rfl), (tw5 154 rfl rfl), ⟨by decide +kernel, by decide +kernel, by decide +kernel⟩⟩
theorem mz_X7_266 : MS RX7 266 yX7_isSheet cX7_isSheet 2 (some .boolean) 2 := ⟨(tw5 155 rfl rfl), (tw5 156 rfl rfl), (tw1 8 rfl rfl), (tw5 157 rfl rfl), ⟨by decide +kernel, by decide +kernel, by decide +kernel⟩⟩
theorem mv_L_146 : MV RL 146 yX7_lay cX7_lay 4 (some .int) 3 := ⟨(tw5 158 rfl rfl), (tw5 159 rfl rfl), (tw5 160 rfl rfl), (tw1 8 rfl rfl), (tw5 161 rfl rfl), ⟨by decide +kernel, by decide +kernel, by decide +kernel⟩⟩
theorem mv_L_151 : MV RL 151 yX7_read cX7_read 11 (some .int) 4 := ⟨(tw5 162 rfl rfl), (tw5 163 rfl rfl), (tw5 164 rfl rfl), (tw1 8 rfl rfl), (tw5 165 rfl rfl), ⟨by decide +kernel, by decide +kernel, by decide +kernel⟩⟩
theorem mv_X7_270 : MV RX7 270 yX7_offer cX7_offer 3 (some .int) 2 := ⟨(tw5 166 rfl rfl), (tw4 227 rfl rfl), (tw4 228 rfl rfl), (tw1 8 rfl rfl), (tw4 229 rfl rfl), ⟨by decide +kernel, by decide +kernel, by decide +kernel⟩⟩
theorem mv_L_155 : MV RL 155 yX7_torn cX7_torn 1 (some .int) 0 := ⟨(tw5 167 rfl rfl), (tw5 168 rfl rfl), (tw5 169 rfl rfl), (tw1 8 rfl rfl), (tw5 170 rfl rfl), ⟨by decide +kernel, by decide +kernel, by decide +kernel⟩⟩
theorem mv_L_159 : MV RL 159 yX7_count cX7_count 2 (some .int) 1 := ⟨(tw5 171 rfl rfl), (tw5 172 rfl rfl), (tw5 173 rfl rfl), (tw1 8 rfl rfl), (tw5 174 rfl rfl), ⟨by decide +kernel, by decide +kernel, by decide +kernel⟩⟩
theorem kc_J6_265 : Cond.constant RJ6 265 (1431655765) ∈ gw := (tw3 75 rfl rfl)
theorem kc_J6_266 : Cond.constant RJ6 266 (858993459) ∈ gw := (tw3 76 rfl rfl)
theorem kc_J6_267 : Cond.constant RJ6 267 (252645135) ∈ gw := (tw3 77 rfl rfl)
theorem kc_X6_183 : Cond.constantLong RX6 183 (-1) ∈ gw := (tw3 94 rfl rfl)
theorem kc_X6_222 : Cond.constant RX6 222 (1103515245) ∈ gw := (tw3 175 rfl rfl)
theorem kc_X7_70 : Cond.constantLong RX7 70 (127) ∈ gw := (tw4 109 rfl rfl)
theorem kc_X7_106 : Cond.constantLong RX7 106 (97) ∈ gw := (tw4 129 rfl rfl)
theorem kc_X7_108 : Cond.constantLong RX7 108 (122) ∈ gw := (tw4 130 rfl rfl)
theorem kc_X7_110 : Cond.constantLong RX7 110 (48) ∈ gw := (tw4 131 rfl rfl)
theorem kc_X7_112 : Cond.constantLong RX7 112 (57) ∈ gw := (tw4 132 rfl rfl)
theorem kc_X7_180 : Cond.constantLong RX7 180 (2) ∈ gw := (tw4 201 rfl rfl)
theorem kc_X7_185 : Cond.constantLong RX7 185 (3) ∈ gw := (tw4 209 rfl rfl)
theorem kc_X7_187 : Cond.constantLong RX7 187 (99) ∈ gw := (tw4 210 rfl rfl)
theorem kc_X7_192 : Cond.constantLong RX7 192 (20) ∈ gw := (tw4 219 rfl rfl)
theorem kc_X7_194 : Cond.constantLong RX7 194 (9) ∈ gw := (tw4 220 rfl rfl)
theorem kc_X7_196 : Cond.constantLong RX7 196 (6) ∈ gw := (tw4 225 rfl rfl)
theorem kc_X7_201 : Cond.constantLong RX7 201 (30) ∈ gw := (tw5 2 rfl rfl)
theorem kc_X7_203 : Cond.constantLong RX7 203 (5) ∈ gw := (tw5 26 rfl rfl)
theorem kc_X7_205 : Cond.constant RX7 205 (1000000) ∈ gw := (tw5 39 rfl rfl)
theorem kc_X7_232 : Cond.constantLong RX7 232 (-1) ∈ gw := (tw5 90 rfl rfl)
theorem kc_X7_252 : Cond.constantLong RX7 252 (10) ∈ gw := (tw5 104 rfl rfl)
theorem kc_X7_260 : Cond.constantLong RX7 260 (60) ∈ gw := (tw5 137 rfl rfl)
theorem kc_X7_262 : Cond.constant RX7 262 (1103515245) ∈ gw := (tw5 138 rfl rfl)
end
