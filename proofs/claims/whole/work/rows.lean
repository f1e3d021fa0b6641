section
-- ===== PART A: goes FIRST, ahead of the names: the tables' words, and 'selects' of the private methods out of them =====
/-- a private method of a class that the tables say can be made, by its rows of tables_1 -/
def lw_okq (q : MethodName × Nat) : Prop := (q.1.cls ≠ "java/lang/invoke/MethodHandle" ∧ q.1.cls ≠ "java/lang/invoke/VarHandle") ∧ Cond.instantiable q.1.cls q.2 ∈ tables_1 ∧ Cond.privateMethod q.1 ∈ tables_1 ∧ Cond.instanceMethod q.1 ∈ tables_1
theorem lw_p0 : lw_okq (⟨"FireLeave$Tape", "signAt", "(I)I"⟩, 4) := ⟨⟨by decide +kernel, by decide +kernel⟩, List.mem_of_getElem? (i := 32) (by decide +kernel), List.mem_of_getElem? (i := 283) (by decide +kernel), List.mem_of_getElem? (i := 284) (by decide +kernel)⟩
theorem lw_p1 : lw_okq (⟨"FireLeave$TextReader", "takeLine", "(I)V"⟩, 9) := ⟨⟨by decide +kernel, by decide +kernel⟩, List.mem_of_getElem? (i := 26) (by decide +kernel), List.mem_of_getElem? (i := 287) (by decide +kernel), List.mem_of_getElem? (i := 288) (by decide +kernel)⟩
theorem lw_p2 : lw_okq (⟨"FireLeave$TextReader", "lineByName", "()I"⟩, 9) := ⟨⟨by decide +kernel, by decide +kernel⟩, List.mem_of_getElem? (i := 26) (by decide +kernel), List.mem_of_getElem? (i := 291) (by decide +kernel), List.mem_of_getElem? (i := 292) (by decide +kernel)⟩
theorem lw_p3 : lw_okq (⟨"FireLeave$TextReader", "refuseToken", "(I)V"⟩, 9) := ⟨⟨by decide +kernel, by decide +kernel⟩, List.mem_of_getElem? (i := 26) (by decide +kernel), List.mem_of_getElem? (i := 354) (by decide +kernel), List.mem_of_getElem? (i := 355) (by decide +kernel)⟩
theorem lw_p4 : lw_okq (⟨"FireLeave$TextReader", "fail", "(II)V"⟩, 9) := ⟨⟨by decide +kernel, by decide +kernel⟩, List.mem_of_getElem? (i := 26) (by decide +kernel), List.mem_of_getElem? (i := 358) (by decide +kernel), List.mem_of_getElem? (i := 359) (by decide +kernel)⟩
theorem lw_p5 : lw_okq (⟨"FireLeave$TextReader", "takeFire", "()V"⟩, 9) := ⟨⟨by decide +kernel, by decide +kernel⟩, List.mem_of_getElem? (i := 26) (by decide +kernel), List.mem_of_getElem? (i := 362) (by decide +kernel), List.mem_of_getElem? (i := 363) (by decide +kernel)⟩
theorem lw_p6 : lw_okq (⟨"FireLeave$TextReader", "takeNumber", "(II)I"⟩, 9) := ⟨⟨by decide +kernel, by decide +kernel⟩, List.mem_of_getElem? (i := 26) (by decide +kernel), List.mem_of_getElem? (i := 366) (by decide +kernel), List.mem_of_getElem? (i := 367) (by decide +kernel)⟩
theorem lw_p7 : lw_okq (⟨"FireLeave$TextReader", "takeRain", "()V"⟩, 9) := ⟨⟨by decide +kernel, by decide +kernel⟩, List.mem_of_getElem? (i := 26) (by decide +kernel), List.mem_of_getElem? (i := 375) (by decide +kernel), List.mem_of_getElem? (i := 376) (by decide +kernel)⟩
theorem lw_p8 : lw_okq (⟨"FireLeave$TextReader", "takeOffer", "()V"⟩, 9) := ⟨⟨by decide +kernel, by decide +kernel⟩, List.mem_of_getElem? (i := 26) (by decide +kernel), List.mem_of_getElem? (i := 379) (by decide +kernel), List.mem_of_getElem? (i := 380) (by decide +kernel)⟩
theorem lw_p9 : lw_okq (⟨"FireLeave$TextReader", "takeHouse", "(I)V"⟩, 9) := ⟨⟨by decide +kernel, by decide +kernel⟩, List.mem_of_getElem? (i := 26) (by decide +kernel), List.mem_of_getElem? (i := 383) (by decide +kernel), List.mem_of_getElem? (i := 384) (by decide +kernel)⟩
theorem lw_p10 : lw_okq (⟨"FireLeave$TextReader", "takeStop", "()V"⟩, 9) := ⟨⟨by decide +kernel, by decide +kernel⟩, List.mem_of_getElem? (i := 26) (by decide +kernel), List.mem_of_getElem? (i := 391) (by decide +kernel), List.mem_of_getElem? (i := 392) (by decide +kernel)⟩
theorem lw_p11 : lw_okq (⟨"FireLeave$TextReader", "checkHouses", "()V"⟩, 9) := ⟨⟨by decide +kernel, by decide +kernel⟩, List.mem_of_getElem? (i := 26) (by decide +kernel), List.mem_of_getElem? (i := 395) (by decide +kernel), List.mem_of_getElem? (i := 396) (by decide +kernel)⟩
theorem lw_p12 : lw_okq (⟨"FireLeave$TextReader", "makeOffers", "()V"⟩, 9) := ⟨⟨by decide +kernel, by decide +kernel⟩, List.mem_of_getElem? (i := 26) (by decide +kernel), List.mem_of_getElem? (i := 403) (by decide +kernel), List.mem_of_getElem? (i := 404) (by decide +kernel)⟩
theorem lw_p13 : lw_okq (⟨"FireLeave$City", "give", "(II)V"⟩, 12) := ⟨⟨by decide +kernel, by decide +kernel⟩, List.mem_of_getElem? (i := 55) (by decide +kernel), List.mem_of_getElem? (i := 413) (by decide +kernel), List.mem_of_getElem? (i := 414) (by decide +kernel)⟩
theorem lw_p14 : lw_okq (⟨"FireLeave$City", "burn", "(II)I"⟩, 12) := ⟨⟨by decide +kernel, by decide +kernel⟩, List.mem_of_getElem? (i := 55) (by decide +kernel), List.mem_of_getElem? (i := 480) (by decide +kernel), List.mem_of_getElem? (i := 481) (by decide +kernel)⟩
theorem lw_p15 : lw_okq (⟨"FireLeave", "startTrial", "()V"⟩, 10) := ⟨⟨by decide +kernel, by decide +kernel⟩, List.mem_of_getElem? (i := 18) (by decide +kernel), List.mem_of_getElem? (i := 488) (by decide +kernel), List.mem_of_getElem? (i := 489) (by decide +kernel)⟩
def lw_privs_1 : List (MethodName × Nat) := [(⟨"FireLeave$Tape", "signAt", "(I)I"⟩, 4), (⟨"FireLeave$TextReader", "takeLine", "(I)V"⟩, 9), (⟨"FireLeave$TextReader", "lineByName", "()I"⟩, 9), (⟨"FireLeave$TextReader", "refuseToken", "(I)V"⟩, 9), (⟨"FireLeave$TextReader", "fail", "(II)V"⟩, 9), (⟨"FireLeave$TextReader", "takeFire", "()V"⟩, 9), (⟨"FireLeave$TextReader", "takeNumber", "(II)I"⟩, 9), (⟨"FireLeave$TextReader", "takeRain", "()V"⟩, 9), (⟨"FireLeave$TextReader", "takeOffer", "()V"⟩, 9), (⟨"FireLeave$TextReader", "takeHouse", "(I)V"⟩, 9), (⟨"FireLeave$TextReader", "takeStop", "()V"⟩, 9), (⟨"FireLeave$TextReader", "checkHouses", "()V"⟩, 9), (⟨"FireLeave$TextReader", "makeOffers", "()V"⟩, 9), (⟨"FireLeave$City", "give", "(II)V"⟩, 12), (⟨"FireLeave$City", "burn", "(II)I"⟩, 12), (⟨"FireLeave", "startTrial", "()V"⟩, 10)]
theorem lw_r1 : ∀ q ∈ lw_privs_1, lw_okq q := List.forall_mem_cons.mpr ⟨lw_p0, List.forall_mem_cons.mpr ⟨lw_p1, List.forall_mem_cons.mpr ⟨lw_p2, List.forall_mem_cons.mpr ⟨lw_p3, List.forall_mem_cons.mpr ⟨lw_p4, List.forall_mem_cons.mpr ⟨lw_p5, List.forall_mem_cons.mpr ⟨lw_p6, List.forall_mem_cons.mpr ⟨lw_p7, List.forall_mem_cons.mpr ⟨lw_p8, List.forall_mem_cons.mpr ⟨lw_p9, List.forall_mem_cons.mpr ⟨lw_p10, List.forall_mem_cons.mpr ⟨lw_p11, List.forall_mem_cons.mpr ⟨lw_p12, List.forall_mem_cons.mpr ⟨lw_p13, List.forall_mem_cons.mpr ⟨lw_p14, List.forall_mem_cons.mpr ⟨lw_p15, fun _ h => absurd h List.not_mem_nil⟩⟩⟩⟩⟩⟩⟩⟩⟩⟩⟩⟩⟩⟩⟩⟩
theorem lw_p16 : lw_okq (⟨"FireLeave", "lossByKinds", "(II)I"⟩, 10) := ⟨⟨by decide +kernel, by decide +kernel⟩, List.mem_of_getElem? (i := 18) (by decide +kernel), List.mem_of_getElem? (i := 516) (by decide +kernel), List.mem_of_getElem? (i := 517) (by decide +kernel)⟩
theorem lw_p17 : lw_okq (⟨"FireLeave", "lossAsItIs", "(I)I"⟩, 10) := ⟨⟨by decide +kernel, by decide +kernel⟩, List.mem_of_getElem? (i := 18) (by decide +kernel), List.mem_of_getElem? (i := 537) (by decide +kernel), List.mem_of_getElem? (i := 538) (by decide +kernel)⟩
theorem lw_p18 : lw_okq (⟨"FireLeave", "playWith", "(III)LFireLeave$City;"⟩, 10) := ⟨⟨by decide +kernel, by decide +kernel⟩, List.mem_of_getElem? (i := 18) (by decide +kernel), List.mem_of_getElem? (i := 541) (by decide +kernel), List.mem_of_getElem? (i := 542) (by decide +kernel)⟩
theorem lw_p19 : lw_okq (⟨"FireLeave", "oddsOfOut", "(II)J"⟩, 10) := ⟨⟨by decide +kernel, by decide +kernel⟩, List.mem_of_getElem? (i := 18) (by decide +kernel), List.mem_of_getElem? (i := 594) (by decide +kernel), List.mem_of_getElem? (i := 595) (by decide +kernel)⟩
theorem lw_p20 : lw_okq (⟨"FireLeave", "tryKinds", "(II)V"⟩, 10) := ⟨⟨by decide +kernel, by decide +kernel⟩, List.mem_of_getElem? (i := 18) (by decide +kernel), List.mem_of_getElem? (i := 626) (by decide +kernel), List.mem_of_getElem? (i := 627) (by decide +kernel)⟩
theorem lw_p21 : lw_okq (⟨"FireLeave", "tallyFitting", "()I"⟩, 10) := ⟨⟨by decide +kernel, by decide +kernel⟩, List.mem_of_getElem? (i := 18) (by decide +kernel), List.mem_of_getElem? (i := 642) (by decide +kernel), List.mem_of_getElem? (i := 643) (by decide +kernel)⟩
theorem lw_p22 : lw_okq (⟨"FireLeave", "mostInRow", "(I)I"⟩, 10) := ⟨⟨by decide +kernel, by decide +kernel⟩, List.mem_of_getElem? (i := 18) (by decide +kernel), List.mem_of_getElem? (i := 647) (by decide +kernel), List.mem_of_getElem? (i := 648) (by decide +kernel)⟩
theorem lw_p23 : lw_okq (⟨"FireLeave", "imagesKept", "()I"⟩, 10) := ⟨⟨by decide +kernel, by decide +kernel⟩, List.mem_of_getElem? (i := 18) (by decide +kernel), List.mem_of_getElem? (i := 722) (by decide +kernel), List.mem_of_getElem? (i := 723) (by decide +kernel)⟩
theorem lw_p24 : lw_okq (⟨"FireLeaveModel", "firstDraft", "()V"⟩, 28) := ⟨⟨by decide +kernel, by decide +kernel⟩, List.mem_of_getElem? (i := 726) (by decide +kernel), List.mem_of_getElem? (i := 732) (by decide +kernel), List.mem_of_getElem? (i := 733) (by decide +kernel)⟩
theorem lw_p25 : lw_okq (⟨"FireLeaveModel", "keepDraft", "()V"⟩, 28) := ⟨⟨by decide +kernel, by decide +kernel⟩, List.mem_of_getElem? (i := 726) (by decide +kernel), List.mem_of_getElem? (i := 736) (by decide +kernel), List.mem_of_getElem? (i := 737) (by decide +kernel)⟩
theorem lw_p26 : lw_okq (⟨"FireLeaveModel", "next", "()V"⟩, 28) := ⟨⟨by decide +kernel, by decide +kernel⟩, List.mem_of_getElem? (i := 726) (by decide +kernel), List.mem_of_getElem? (i := 842) (by decide +kernel), List.mem_of_getElem? (i := 843) (by decide +kernel)⟩
theorem lw_p27 : lw_okq (⟨"FireLeaveModel", "byteAt", "(I)I"⟩, 28) := ⟨⟨by decide +kernel, by decide +kernel⟩, List.mem_of_getElem? (i := 726) (by decide +kernel), List.mem_of_getElem? (i := 846) (by decide +kernel), List.mem_of_getElem? (i := 847) (by decide +kernel)⟩
theorem lw_p28 : lw_okq (⟨"FireLeaveModel", "needs", "(ZI)V"⟩, 28) := ⟨⟨by decide +kernel, by decide +kernel⟩, List.mem_of_getElem? (i := 726) (by decide +kernel), List.mem_of_getElem? (i := 854) (by decide +kernel), List.mem_of_getElem? (i := 855) (by decide +kernel)⟩
theorem lw_p29 : lw_okq (⟨"FireLeaveModel", "readLine", "()V"⟩, 28) := ⟨⟨by decide +kernel, by decide +kernel⟩, List.mem_of_getElem? (i := 726) (by decide +kernel), List.mem_of_getElem? (i := 858) (by decide +kernel), List.mem_of_getElem? (i := 859) (by decide +kernel)⟩
theorem lw_p30 : lw_okq (⟨"FireLeaveModel", "lineNow", "()I"⟩, 28) := ⟨⟨by decide +kernel, by decide +kernel⟩, List.mem_of_getElem? (i := 726) (by decide +kernel), List.mem_of_getElem? (i := 862) (by decide +kernel), List.mem_of_getElem? (i := 863) (by decide +kernel)⟩
theorem lw_p31 : lw_okq (⟨"FireLeaveModel", "is", "(IIII)Z"⟩, 28) := ⟨⟨by decide +kernel, by decide +kernel⟩, List.mem_of_getElem? (i := 726) (by decide +kernel), List.mem_of_getElem? (i := 866) (by decide +kernel), List.mem_of_getElem? (i := 867) (by decide +kernel)⟩
def lw_privs_2 : List (MethodName × Nat) := [(⟨"FireLeave", "lossByKinds", "(II)I"⟩, 10), (⟨"FireLeave", "lossAsItIs", "(I)I"⟩, 10), (⟨"FireLeave", "playWith", "(III)LFireLeave$City;"⟩, 10), (⟨"FireLeave", "oddsOfOut", "(II)J"⟩, 10), (⟨"FireLeave", "tryKinds", "(II)V"⟩, 10), (⟨"FireLeave", "tallyFitting", "()I"⟩, 10), (⟨"FireLeave", "mostInRow", "(I)I"⟩, 10), (⟨"FireLeave", "imagesKept", "()I"⟩, 10), (⟨"FireLeaveModel", "firstDraft", "()V"⟩, 28), (⟨"FireLeaveModel", "keepDraft", "()V"⟩, 28), (⟨"FireLeaveModel", "next", "()V"⟩, 28), (⟨"FireLeaveModel", "byteAt", "(I)I"⟩, 28), (⟨"FireLeaveModel", "needs", "(ZI)V"⟩, 28), (⟨"FireLeaveModel", "readLine", "()V"⟩, 28), (⟨"FireLeaveModel", "lineNow", "()I"⟩, 28), (⟨"FireLeaveModel", "is", "(IIII)Z"⟩, 28)]
theorem lw_r2 : ∀ q ∈ lw_privs_2, lw_okq q := List.forall_mem_cons.mpr ⟨lw_p16, List.forall_mem_cons.mpr ⟨lw_p17, List.forall_mem_cons.mpr ⟨lw_p18, List.forall_mem_cons.mpr ⟨lw_p19, List.forall_mem_cons.mpr ⟨lw_p20, List.forall_mem_cons.mpr ⟨lw_p21, List.forall_mem_cons.mpr ⟨lw_p22, List.forall_mem_cons.mpr ⟨lw_p23, List.forall_mem_cons.mpr ⟨lw_p24, List.forall_mem_cons.mpr ⟨lw_p25, List.forall_mem_cons.mpr ⟨lw_p26, List.forall_mem_cons.mpr ⟨lw_p27, List.forall_mem_cons.mpr ⟨lw_p28, List.forall_mem_cons.mpr ⟨lw_p29, List.forall_mem_cons.mpr ⟨lw_p30, List.forall_mem_cons.mpr ⟨lw_p31, fun _ h => absurd h List.not_mem_nil⟩⟩⟩⟩⟩⟩⟩⟩⟩⟩⟩⟩⟩⟩⟩⟩
theorem lw_p32 : lw_okq (⟨"FireLeaveModel", "ends", "(III)Z"⟩, 28) := ⟨⟨by decide +kernel, by decide +kernel⟩, List.mem_of_getElem? (i := 726) (by decide +kernel), List.mem_of_getElem? (i := 870) (by decide +kernel), List.mem_of_getElem? (i := 871) (by decide +kernel)⟩
theorem lw_p33 : lw_okq (⟨"FireLeaveModel", "readLineOf", "(I)V"⟩, 28) := ⟨⟨by decide +kernel, by decide +kernel⟩, List.mem_of_getElem? (i := 726) (by decide +kernel), List.mem_of_getElem? (i := 874) (by decide +kernel), List.mem_of_getElem? (i := 875) (by decide +kernel)⟩
theorem lw_p34 : lw_okq (⟨"FireLeaveModel", "readHouse", "()I"⟩, 28) := ⟨⟨by decide +kernel, by decide +kernel⟩, List.mem_of_getElem? (i := 726) (by decide +kernel), List.mem_of_getElem? (i := 878) (by decide +kernel), List.mem_of_getElem? (i := 879) (by decide +kernel)⟩
theorem lw_p35 : lw_okq (⟨"FireLeaveModel", "readNumber", "(II)I"⟩, 28) := ⟨⟨by decide +kernel, by decide +kernel⟩, List.mem_of_getElem? (i := 726) (by decide +kernel), List.mem_of_getElem? (i := 882) (by decide +kernel), List.mem_of_getElem? (i := 883) (by decide +kernel)⟩
theorem lw_p36 : lw_okq (⟨"FireLeaveModel", "looked", "(II)I"⟩, 28) := ⟨⟨by decide +kernel, by decide +kernel⟩, List.mem_of_getElem? (i := 726) (by decide +kernel), List.mem_of_getElem? (i := 886) (by decide +kernel), List.mem_of_getElem? (i := 887) (by decide +kernel)⟩
theorem lw_p37 : lw_okq (⟨"FireLeaveModel", "readRain", "()V"⟩, 28) := ⟨⟨by decide +kernel, by decide +kernel⟩, List.mem_of_getElem? (i := 726) (by decide +kernel), List.mem_of_getElem? (i := 890) (by decide +kernel), List.mem_of_getElem? (i := 891) (by decide +kernel)⟩
theorem lw_p38 : lw_okq (⟨"FireLeaveModel", "offersCome", "()V"⟩, 28) := ⟨⟨by decide +kernel, by decide +kernel⟩, List.mem_of_getElem? (i := 726) (by decide +kernel), List.mem_of_getElem? (i := 894) (by decide +kernel), List.mem_of_getElem? (i := 895) (by decide +kernel)⟩
theorem lw_p39 : lw_okq (⟨"FireLeaveModel", "starts", "()V"⟩, 28) := ⟨⟨by decide +kernel, by decide +kernel⟩, List.mem_of_getElem? (i := 726) (by decide +kernel), List.mem_of_getElem? (i := 906) (by decide +kernel), List.mem_of_getElem? (i := 907) (by decide +kernel)⟩
theorem lw_p40 : lw_okq (⟨"FireLeaveModel", "allOf", "(I)I"⟩, 28) := ⟨⟨by decide +kernel, by decide +kernel⟩, List.mem_of_getElem? (i := 726) (by decide +kernel), List.mem_of_getElem? (i := 910) (by decide +kernel), List.mem_of_getElem? (i := 911) (by decide +kernel)⟩
theorem lw_p41 : lw_okq (⟨"FireLeaveModel", "isHouse", "(I)Z"⟩, 28) := ⟨⟨by decide +kernel, by decide +kernel⟩, List.mem_of_getElem? (i := 726) (by decide +kernel), List.mem_of_getElem? (i := 918) (by decide +kernel), List.mem_of_getElem? (i := 919) (by decide +kernel)⟩
theorem lw_p42 : lw_okq (⟨"FireLeaveModel", "becomes", "(II)I"⟩, 28) := ⟨⟨by decide +kernel, by decide +kernel⟩, List.mem_of_getElem? (i := 726) (by decide +kernel), List.mem_of_getElem? (i := 932) (by decide +kernel), List.mem_of_getElem? (i := 933) (by decide +kernel)⟩
theorem lw_p43 : lw_okq (⟨"FireLeaveModel", "gives", "(II)V"⟩, 28) := ⟨⟨by decide +kernel, by decide +kernel⟩, List.mem_of_getElem? (i := 726) (by decide +kernel), List.mem_of_getElem? (i := 951) (by decide +kernel), List.mem_of_getElem? (i := 952) (by decide +kernel)⟩
theorem lw_p44 : lw_okq (⟨"FireLeaveModel", "settles", "()V"⟩, 28) := ⟨⟨by decide +kernel, by decide +kernel⟩, List.mem_of_getElem? (i := 726) (by decide +kernel), List.mem_of_getElem? (i := 955) (by decide +kernel), List.mem_of_getElem? (i := 956) (by decide +kernel)⟩
theorem lw_p45 : lw_okq (⟨"FireLeaveModel", "nightsGo", "(I)V"⟩, 28) := ⟨⟨by decide +kernel, by decide +kernel⟩, List.mem_of_getElem? (i := 726) (by decide +kernel), List.mem_of_getElem? (i := 964) (by decide +kernel), List.mem_of_getElem? (i := 965) (by decide +kernel)⟩
theorem lw_p46 : lw_okq (⟨"FireLeaveModel", "nightGoes", "()V"⟩, 28) := ⟨⟨by decide +kernel, by decide +kernel⟩, List.mem_of_getElem? (i := 726) (by decide +kernel), List.mem_of_getElem? (i := 968) (by decide +kernel), List.mem_of_getElem? (i := 969) (by decide +kernel)⟩
theorem lw_p47 : lw_okq (⟨"FireLeaveModel", "asks", "()V"⟩, 28) := ⟨⟨by decide +kernel, by decide +kernel⟩, List.mem_of_getElem? (i := 726) (by decide +kernel), List.mem_of_getElem? (i := 972) (by decide +kernel), List.mem_of_getElem? (i := 973) (by decide +kernel)⟩
def lw_privs_3 : List (MethodName × Nat) := [(⟨"FireLeaveModel", "ends", "(III)Z"⟩, 28), (⟨"FireLeaveModel", "readLineOf", "(I)V"⟩, 28), (⟨"FireLeaveModel", "readHouse", "()I"⟩, 28), (⟨"FireLeaveModel", "readNumber", "(II)I"⟩, 28), (⟨"FireLeaveModel", "looked", "(II)I"⟩, 28), (⟨"FireLeaveModel", "readRain", "()V"⟩, 28), (⟨"FireLeaveModel", "offersCome", "()V"⟩, 28), (⟨"FireLeaveModel", "starts", "()V"⟩, 28), (⟨"FireLeaveModel", "allOf", "(I)I"⟩, 28), (⟨"FireLeaveModel", "isHouse", "(I)Z"⟩, 28), (⟨"FireLeaveModel", "becomes", "(II)I"⟩, 28), (⟨"FireLeaveModel", "gives", "(II)V"⟩, 28), (⟨"FireLeaveModel", "settles", "()V"⟩, 28), (⟨"FireLeaveModel", "nightsGo", "(I)V"⟩, 28), (⟨"FireLeaveModel", "nightGoes", "()V"⟩, 28), (⟨"FireLeaveModel", "asks", "()V"⟩, 28)]
theorem lw_r3 : ∀ q ∈ lw_privs_3, lw_okq q := List.forall_mem_cons.mpr ⟨lw_p32, List.forall_mem_cons.mpr ⟨lw_p33, List.forall_mem_cons.mpr ⟨lw_p34, List.forall_mem_cons.mpr ⟨lw_p35, List.forall_mem_cons.mpr ⟨lw_p36, List.forall_mem_cons.mpr ⟨lw_p37, List.forall_mem_cons.mpr ⟨lw_p38, List.forall_mem_cons.mpr ⟨lw_p39, List.forall_mem_cons.mpr ⟨lw_p40, List.forall_mem_cons.mpr ⟨lw_p41, List.forall_mem_cons.mpr ⟨lw_p42, List.forall_mem_cons.mpr ⟨lw_p43, List.forall_mem_cons.mpr ⟨lw_p44, List.forall_mem_cons.mpr ⟨lw_p45, List.forall_mem_cons.mpr ⟨lw_p46, List.forall_mem_cons.mpr ⟨lw_p47, fun _ h => absurd h List.not_mem_nil⟩⟩⟩⟩⟩⟩⟩⟩⟩⟩⟩⟩⟩⟩⟩⟩
theorem lw_p48 : lw_okq (⟨"FireLeaveModel", "burns", "(II)I"⟩, 28) := ⟨⟨by decide +kernel, by decide +kernel⟩, List.mem_of_getElem? (i := 726) (by decide +kernel), List.mem_of_getElem? (i := 979) (by decide +kernel), List.mem_of_getElem? (i := 980) (by decide +kernel)⟩
theorem lw_p49 : lw_okq (⟨"FireLeaveModel", "numbers", "()I"⟩, 28) := ⟨⟨by decide +kernel, by decide +kernel⟩, List.mem_of_getElem? (i := 726) (by decide +kernel), List.mem_of_getElem? (i := 1001) (by decide +kernel), List.mem_of_getElem? (i := 1002) (by decide +kernel)⟩
theorem lw_p50 : lw_okq (⟨"FireLeaveModel", "startsBy", "(I)V"⟩, 28) := ⟨⟨by decide +kernel, by decide +kernel⟩, List.mem_of_getElem? (i := 726) (by decide +kernel), List.mem_of_getElem? (i := 1005) (by decide +kernel), List.mem_of_getElem? (i := 1006) (by decide +kernel)⟩
theorem lw_p51 : lw_okq (⟨"FireLeaveModel", "lossOf", "(I)I"⟩, 28) := ⟨⟨by decide +kernel, by decide +kernel⟩, List.mem_of_getElem? (i := 726) (by decide +kernel), List.mem_of_getElem? (i := 1009) (by decide +kernel), List.mem_of_getElem? (i := 1010) (by decide +kernel)⟩
theorem lw_p52 : lw_okq (⟨"FireLeaveModel", "startsWithCooks", "(I)V"⟩, 28) := ⟨⟨by decide +kernel, by decide +kernel⟩, List.mem_of_getElem? (i := 726) (by decide +kernel), List.mem_of_getElem? (i := 1027) (by decide +kernel), List.mem_of_getElem? (i := 1028) (by decide +kernel)⟩
theorem lw_p53 : lw_okq (⟨"FireLeaveModel", "valueOf", "(II)I"⟩, 28) := ⟨⟨by decide +kernel, by decide +kernel⟩, List.mem_of_getElem? (i := 726) (by decide +kernel), List.mem_of_getElem? (i := 1043) (by decide +kernel), List.mem_of_getElem? (i := 1044) (by decide +kernel)⟩
theorem lw_p54 : lw_okq (⟨"FireLeaveModel", "findOdds", "(II)V"⟩, 28) := ⟨⟨by decide +kernel, by decide +kernel⟩, List.mem_of_getElem? (i := 726) (by decide +kernel), List.mem_of_getElem? (i := 1066) (by decide +kernel), List.mem_of_getElem? (i := 1067) (by decide +kernel)⟩
theorem lw_p55 : lw_okq (⟨"FireLeaveModel", "isFit", "(I)Z"⟩, 28) := ⟨⟨by decide +kernel, by decide +kernel⟩, List.mem_of_getElem? (i := 726) (by decide +kernel), List.mem_of_getElem? (i := 1086) (by decide +kernel), List.mem_of_getElem? (i := 1087) (by decide +kernel)⟩
theorem lw_p56 : lw_okq (⟨"FireLeaveModel", "copies", "(II)V"⟩, 28) := ⟨⟨by decide +kernel, by decide +kernel⟩, List.mem_of_getElem? (i := 726) (by decide +kernel), List.mem_of_getElem? (i := 1104) (by decide +kernel), List.mem_of_getElem? (i := 1105) (by decide +kernel)⟩
def lw_privs_4 : List (MethodName × Nat) := [(⟨"FireLeaveModel", "burns", "(II)I"⟩, 28), (⟨"FireLeaveModel", "numbers", "()I"⟩, 28), (⟨"FireLeaveModel", "startsBy", "(I)V"⟩, 28), (⟨"FireLeaveModel", "lossOf", "(I)I"⟩, 28), (⟨"FireLeaveModel", "startsWithCooks", "(I)V"⟩, 28), (⟨"FireLeaveModel", "valueOf", "(II)I"⟩, 28), (⟨"FireLeaveModel", "findOdds", "(II)V"⟩, 28), (⟨"FireLeaveModel", "isFit", "(I)Z"⟩, 28), (⟨"FireLeaveModel", "copies", "(II)V"⟩, 28)]
theorem lw_r4 : ∀ q ∈ lw_privs_4, lw_okq q := List.forall_mem_cons.mpr ⟨lw_p48, List.forall_mem_cons.mpr ⟨lw_p49, List.forall_mem_cons.mpr ⟨lw_p50, List.forall_mem_cons.mpr ⟨lw_p51, List.forall_mem_cons.mpr ⟨lw_p52, List.forall_mem_cons.mpr ⟨lw_p53, List.forall_mem_cons.mpr ⟨lw_p54, List.forall_mem_cons.mpr ⟨lw_p55, List.forall_mem_cons.mpr ⟨lw_p56, fun _ h => absurd h List.not_mem_nil⟩⟩⟩⟩⟩⟩⟩⟩⟩
def lw_privs : List (MethodName × Nat) := lw_privs_1 ++ (lw_privs_2 ++ (lw_privs_3 ++ (lw_privs_4)))
def lw_tbl : List Cond := k2_sels lw_privs ++ tables_1
theorem lw_privs_ok : ∀ q ∈ lw_privs, lw_okq q := by
  show ∀ q ∈ lw_privs_1 ++ (lw_privs_2 ++ (lw_privs_3 ++ (lw_privs_4))), lw_okq q
  exact List.forall_mem_append.mpr ⟨lw_r1, List.forall_mem_append.mpr ⟨lw_r2, List.forall_mem_append.mpr ⟨lw_r3, lw_r4⟩⟩⟩
end
section
def RX0 : String := "FireLeave$City"
def TX0 : u_T := fun k => match k with
  | 0 => ("FireLeave$City", "kind", "[I", true)
  | 1 => ("FireLeave$City", "worth", "[I", true)
  | 2 => ("FireLeave$City", "lost", "[I", true)
  | 3 => ("FireLeave$City", "burntOf", "[I", true)
  | 4 => ("FireLeave$City", "houses", "I", false)
  | 5 => ("FireLeave$City", "at", "I", false)
  | 6 => ("FireLeave$City", "hunger", "I", false)
  | 7 => ("FireLeave$City", "temper", "I", false)
  | 8 => ("FireLeave$City", "rainBits", "I", false)
  | 9 => ("FireLeave$City", "night", "I", false)
  | 10 => ("FireLeave$City", "burnt", "I", false)
  | _ => ("FireLeave$City", "given", "I", false)
def tyX0 : Nat → FieldType := fun k => match k with
  | 0 => .array .int
  | 1 => .array .int
  | 2 => .array .int
  | 3 => .array .int
  | 4 => .int
  | 5 => .int
  | 6 => .int
  | 7 => .int
  | 8 => .int
  | 9 => .int
  | 10 => .int
  | _ => .int
abbrev wsX00 : List Cond := u_ws RX0 TX0 12
theorem nmX0 : ∀ a, a < 12 → ∀ b, b < 12 → a ≠ b → (TX0 a).2.1 ≠ (TX0 b).2.1 := by decide +kernel
theorem tyX0_ok : ∀ k, k < 12 → parseFieldDescriptor (TX0 k).2.2.1 = some (tyX0 k) := by decide +kernel
abbrev cX0_init : ByteArray := prog_2_method_1_code
def yX0_init : MethodName := ⟨RX0, "<init>", "()V"⟩
abbrev cX0_clear : ByteArray := prog_2_method_2_code
def yX0_clear : MethodName := ⟨RX0, "clear", "()V"⟩
abbrev cX0_becomeLike : ByteArray := prog_2_method_3_code
def yX0_becomeLike : MethodName := ⟨RX0, "becomeLike", "(LFireLeave$City;)V"⟩
abbrev cX0_forgetLoss : ByteArray := prog_2_method_4_code
def yX0_forgetLoss : MethodName := ⟨RX0, "forgetLoss", "()V"⟩
abbrev cX0_loss : ByteArray := prog_2_method_5_code
def yX0_loss : MethodName := ⟨RX0, "loss", "()I"⟩
abbrev cX0_has : ByteArray := prog_2_method_6_code
def yX0_has : MethodName := ⟨RX0, "has", "(I)Z"⟩
abbrev cX0_addHouse : ByteArray := prog_2_method_7_code
def yX0_addHouse : MethodName := ⟨RX0, "addHouse", "(II)V"⟩
abbrev cX0_allWorth : ByteArray := prog_2_method_8_code
def yX0_allWorth : MethodName := ⟨RX0, "allWorth", "()I"⟩
abbrev cX0_allLost : ByteArray := prog_2_method_9_code
def yX0_allLost : MethodName := ⟨RX0, "allLost", "()I"⟩
abbrev cX0_allKinds : ByteArray := prog_2_method_10_code
def yX0_allKinds : MethodName := ⟨RX0, "allKinds", "()I"⟩
abbrev cX0_kindBy : ByteArray := prog_2_method_11_code
def yX0_kindBy : MethodName := ⟨RX0, "kindBy", "(II)I"⟩
abbrev cX0_putKinds : ByteArray := prog_2_method_12_code
def yX0_putKinds : MethodName := ⟨RX0, "putKinds", "(I)V"⟩
abbrev cX0_putKind : ByteArray := prog_2_method_13_code
def yX0_putKind : MethodName := ⟨RX0, "putKind", "(II)V"⟩
abbrev cX0_putKindIn : ByteArray := prog_2_method_14_code
def yX0_putKindIn : MethodName := ⟨RX0, "putKindIn", "(II)V"⟩
abbrev cX0_giveAhead : ByteArray := prog_2_method_15_code
def yX0_giveAhead : MethodName := ⟨RX0, "giveAhead", "(II)I"⟩
abbrev cX0_passNights : ByteArray := prog_2_method_16_code
def yX0_passNights : MethodName := ⟨RX0, "passNights", "(I)V"⟩
abbrev cX0_passNight : ByteArray := prog_2_method_17_code
def yX0_passNight : MethodName := ⟨RX0, "passNight", "()V"⟩
abbrev cX0_ask : ByteArray := prog_2_method_18_code
def yX0_ask : MethodName := ⟨RX0, "ask", "()V"⟩
abbrev cX0_give : ByteArray := prog_2_method_19_code
def yX0_give : MethodName := ⟨RX0, "give", "(II)V"⟩
abbrev cX0_burn : ByteArray := prog_2_method_20_code
def yX0_burn : MethodName := ⟨RX0, "burn", "(II)I"⟩
def RX1 : String := "FireLeave$Image"
def TX1 : u_T := fun k => match k with
  | 0 => ("FireLeave$Image", "city", "LFireLeave$City;", true)
  | 1 => ("FireLeave$Image", "seen", "LFireLeave$Sightings;", true)
  | _ => ("FireLeave$Image", "there", "Z", false)
def tyX1 : Nat → FieldType := fun k => match k with
  | 0 => .object "FireLeave$City"
  | 1 => .object "FireLeave$Sightings"
  | _ => .boolean
abbrev wsX10 : List Cond := u_ws RX1 TX1 3
theorem nmX1 : ∀ a, a < 3 → ∀ b, b < 3 → a ≠ b → (TX1 a).2.1 ≠ (TX1 b).2.1 := by decide +kernel
theorem tyX1_ok : ∀ k, k < 3 → parseFieldDescriptor (TX1 k).2.2.1 = some (tyX1 k) := by decide +kernel
abbrev cX1_init : ByteArray := prog_3_method_1_code
def yX1_init : MethodName := ⟨RX1, "<init>", "()V"⟩
def RX2 : String := "FireLeave$Sheet"
def TX2 : u_T := fun k => match k with
  | 0 => ("FireLeave$Sheet", "cells", "[I", true)
  | 1 => ("FireLeave$Sheet", "there", "Z", false)
  | 2 => ("FireLeave$Sheet", "lane", "I", false)
  | _ => ("FireLeave$Sheet", "size", "I", false)
def tyX2 : Nat → FieldType := fun k => match k with
  | 0 => .array .int
  | 1 => .boolean
  | 2 => .int
  | _ => .int
abbrev wsX20 : List Cond := u_ws RX2 TX2 4
theorem nmX2 : ∀ a, a < 4 → ∀ b, b < 4 → a ≠ b → (TX2 a).2.1 ≠ (TX2 b).2.1 := by decide +kernel
theorem tyX2_ok : ∀ k, k < 4 → parseFieldDescriptor (TX2 k).2.2.1 = some (tyX2 k) := by decide +kernel
abbrev cX2_init : ByteArray := prog_4_method_1_code
def yX2_init : MethodName := ⟨RX2, "<init>", "()V"⟩
abbrev cX2_renew : ByteArray := prog_4_method_2_code
def yX2_renew : MethodName := ⟨RX2, "renew", "(II)V"⟩
abbrev cX2_tearAt : ByteArray := prog_4_method_3_code
def yX2_tearAt : MethodName := ⟨RX2, "tearAt", "(II)I"⟩
abbrev cX2_tearOfPair : ByteArray := prog_4_method_4_code
def yX2_tearOfPair : MethodName := ⟨RX2, "tearOfPair", "(II)I"⟩
abbrev cX2_cellAt : ByteArray := prog_4_method_5_code
def yX2_cellAt : MethodName := ⟨RX2, "cellAt", "(I)I"⟩
abbrev cX2_put : ByteArray := prog_4_method_6_code
def yX2_put : MethodName := ⟨RX2, "put", "(II)V"⟩
def RX3 : String := "FireLeave$Sightings"
def TX3 : u_T := fun k => match k with
  | 0 => ("FireLeave$Sightings", "where", "[I", true)
  | 1 => ("FireLeave$Sightings", "nights", "[I", true)
  | 2 => ("FireLeave$Sightings", "worth", "[I", true)
  | _ => ("FireLeave$Sightings", "size", "I", false)
def tyX3 : Nat → FieldType := fun k => match k with
  | 0 => .array .int
  | 1 => .array .int
  | 2 => .array .int
  | _ => .int
abbrev wsX30 : List Cond := u_ws RX3 TX3 4
theorem nmX3 : ∀ a, a < 4 → ∀ b, b < 4 → a ≠ b → (TX3 a).2.1 ≠ (TX3 b).2.1 := by decide +kernel
theorem tyX3_ok : ∀ k, k < 4 → parseFieldDescriptor (TX3 k).2.2.1 = some (tyX3 k) := by decide +kernel
abbrev cX3_init : ByteArray := prog_5_method_1_code
def yX3_init : MethodName := ⟨RX3, "<init>", "()V"⟩
abbrev cX3_append : ByteArray := prog_5_method_2_code
def yX3_append : MethodName := ⟨RX3, "append", "(III)Z"⟩
abbrev cX3_becomeLike : ByteArray := prog_5_method_3_code
def yX3_becomeLike : MethodName := ⟨RX3, "becomeLike", "(LFireLeave$Sightings;)V"⟩
abbrev cX3_mostNights : ByteArray := prog_5_method_4_code
def yX3_mostNights : MethodName := ⟨RX3, "mostNights", "()I"⟩
abbrev cX3_agreesWith : ByteArray := prog_5_method_5_code
def yX3_agreesWith : MethodName := ⟨RX3, "agreesWith", "([I)Z"⟩
def RX4 : String := "FireLeave$Tape"
def TX4 : u_T := fun k => match k with
  | 0 => ("FireLeave$Tape", "bytes", "[B", true)
  | 1 => ("FireLeave$Tape", "next", "I", false)
  | 2 => ("FireLeave$Tape", "length", "I", false)
  | _ => ("FireLeave$Tape", "start", "I", false)
def tyX4 : Nat → FieldType := fun k => match k with
  | 0 => .array .byte
  | 1 => .int
  | 2 => .int
  | _ => .int
abbrev wsX40 : List Cond := u_ws RX4 TX4 4
theorem nmX4 : ∀ a, a < 4 → ∀ b, b < 4 → a ≠ b → (TX4 a).2.1 ≠ (TX4 b).2.1 := by decide +kernel
theorem tyX4_ok : ∀ k, k < 4 → parseFieldDescriptor (TX4 k).2.2.1 = some (tyX4 k) := by decide +kernel
abbrev cX4_init : ByteArray := prog_6_method_1_code
def yX4_init : MethodName := ⟨RX4, "<init>", "()V"⟩
abbrev cX4_append : ByteArray := prog_6_method_2_code
def yX4_append : MethodName := ⟨RX4, "append", "(I)Z"⟩
abbrev cX4_rewind : ByteArray := prog_6_method_3_code
def yX4_rewind : MethodName := ⟨RX4, "rewind", "()V"⟩
abbrev cX4_takeToken : ByteArray := prog_6_method_4_code
def yX4_takeToken : MethodName := ⟨RX4, "takeToken", "()I"⟩
abbrev cX4_signAt : ByteArray := prog_6_method_5_code
def yX4_signAt : MethodName := ⟨RX4, "signAt", "(I)I"⟩
abbrev cX4_nameIs : ByteArray := prog_6_method_6_code
def yX4_nameIs : MethodName := ⟨RX4, "nameIs", "(Ljava/lang/String;)Z"⟩
abbrev cX4_number : ByteArray := prog_6_method_7_code
def yX4_number : MethodName := ⟨RX4, "number", "()I"⟩
def RX5 : String := "FireLeave$TextReader"
def TX5 : u_T := fun k => match k with
  | 0 => ("FireLeave$TextReader", "tape", "LFireLeave$Tape;", true)
  | 1 => ("FireLeave$TextReader", "told", "LFireLeave$City;", true)
  | 2 => ("FireLeave$TextReader", "offerHouse", "[I", true)
  | 3 => ("FireLeave$TextReader", "offerMuch", "[I", true)
  | 4 => ("FireLeave$TextReader", "offers", "I", false)
  | 5 => ("FireLeave$TextReader", "fireTold", "Z", false)
  | 6 => ("FireLeave$TextReader", "lines", "I", false)
  | 7 => ("FireLeave$TextReader", "fault", "I", false)
  | _ => ("FireLeave$TextReader", "faultPlace", "I", false)
def tyX5 : Nat → FieldType := fun k => match k with
  | 0 => .object "FireLeave$Tape"
  | 1 => .object "FireLeave$City"
  | 2 => .array .int
  | 3 => .array .int
  | 4 => .int
  | 5 => .boolean
  | 6 => .int
  | 7 => .int
  | _ => .int
abbrev wsX50 : List Cond := u_ws RX5 TX5 9
theorem nmX5 : ∀ a, a < 9 → ∀ b, b < 9 → a ≠ b → (TX5 a).2.1 ≠ (TX5 b).2.1 := by decide +kernel
theorem tyX5_ok : ∀ k, k < 9 → parseFieldDescriptor (TX5 k).2.2.1 = some (tyX5 k) := by decide +kernel
abbrev cX5_init : ByteArray := prog_7_method_1_code
def yX5_init : MethodName := ⟨RX5, "<init>", "()V"⟩
abbrev cX5_takeText : ByteArray := prog_7_method_2_code
def yX5_takeText : MethodName := ⟨RX5, "takeText", "()V"⟩
abbrev cX5_fail : ByteArray := prog_7_method_3_code
def yX5_fail : MethodName := ⟨RX5, "fail", "(II)V"⟩
abbrev cX5_refuseToken : ByteArray := prog_7_method_4_code
def yX5_refuseToken : MethodName := ⟨RX5, "refuseToken", "(I)V"⟩
abbrev cX5_takeLine : ByteArray := prog_7_method_5_code
def yX5_takeLine : MethodName := ⟨RX5, "takeLine", "(I)V"⟩
abbrev cX5_takeStop : ByteArray := prog_7_method_6_code
def yX5_takeStop : MethodName := ⟨RX5, "takeStop", "()V"⟩
abbrev cX5_lineByName : ByteArray := prog_7_method_7_code
def yX5_lineByName : MethodName := ⟨RX5, "lineByName", "()I"⟩
abbrev cX5_takeNumber : ByteArray := prog_7_method_8_code
def yX5_takeNumber : MethodName := ⟨RX5, "takeNumber", "(II)I"⟩
abbrev cX5_takeHouse : ByteArray := prog_7_method_9_code
def yX5_takeHouse : MethodName := ⟨RX5, "takeHouse", "(I)V"⟩
abbrev cX5_takeFire : ByteArray := prog_7_method_10_code
def yX5_takeFire : MethodName := ⟨RX5, "takeFire", "()V"⟩
abbrev cX5_takeRain : ByteArray := prog_7_method_11_code
def yX5_takeRain : MethodName := ⟨RX5, "takeRain", "()V"⟩
abbrev cX5_takeOffer : ByteArray := prog_7_method_12_code
def yX5_takeOffer : MethodName := ⟨RX5, "takeOffer", "()V"⟩
abbrev cX5_checkHouses : ByteArray := prog_7_method_13_code
def yX5_checkHouses : MethodName := ⟨RX5, "checkHouses", "()V"⟩
abbrev cX5_makeOffers : ByteArray := prog_7_method_14_code
def yX5_makeOffers : MethodName := ⟨RX5, "makeOffers", "()V"⟩
def RX6 : String := "FireLeave"
def TX6 : u_T := fun k => match k with
  | 0 => ("FireLeave", "reader", "LFireLeave$TextReader;", true)
  | 1 => ("FireLeave", "now", "LFireLeave$City;", true)
  | 2 => ("FireLeave", "trial", "LFireLeave$City;", true)
  | 3 => ("FireLeave", "seen", "LFireLeave$Sightings;", true)
  | 4 => ("FireLeave", "images", "[LFireLeave$Image;", true)
  | 5 => ("FireLeave", "sheets", "[LFireLeave$Sheet;", true)
  | 6 => ("FireLeave", "left", "[I", true)
  | 7 => ("FireLeave", "tally", "[I", true)
  | 8 => ("FireLeave", "latestFault", "I", false)
  | _ => ("FireLeave", "latestTear", "I", false)
def tyX6 : Nat → FieldType := fun k => match k with
  | 0 => .object "FireLeave$TextReader"
  | 1 => .object "FireLeave$City"
  | 2 => .object "FireLeave$City"
  | 3 => .object "FireLeave$Sightings"
  | 4 => .array (.object "FireLeave$Image")
  | 5 => .array (.object "FireLeave$Sheet")
  | 6 => .array .int
  | 7 => .array .int
  | 8 => .int
  | _ => .int
abbrev wsX60 : List Cond := u_ws RX6 TX6 10
theorem nmX6 : ∀ a, a < 10 → ∀ b, b < 10 → a ≠ b → (TX6 a).2.1 ≠ (TX6 b).2.1 := by decide +kernel
theorem tyX6_ok : ∀ k, k < 10 → parseFieldDescriptor (TX6 k).2.2.1 = some (tyX6 k) := by decide +kernel
abbrev cX6_init : ByteArray := prog_1_method_1_code
def yX6_init : MethodName := ⟨RX6, "<init>", "()V"⟩
abbrev cX6_feed : ByteArray := prog_1_method_2_code
def yX6_feed : MethodName := ⟨RX6, "feed", "(I)I"⟩
abbrev cX6_end : ByteArray := prog_1_method_3_code
def yX6_end : MethodName := ⟨RX6, "end", "(I)I"⟩
abbrev cX6_text : ByteArray := prog_1_method_4_code
def yX6_text : MethodName := ⟨RX6, "text", "()I"⟩
abbrev cX6_fault : ByteArray := prog_1_method_5_code
def yX6_fault : MethodName := ⟨RX6, "fault", "()I"⟩
abbrev cX6_rule : ByteArray := prog_1_method_6_code
def yX6_rule : MethodName := ⟨RX6, "rule", "(I)I"⟩
abbrev cX6_house : ByteArray := prog_1_method_7_code
def yX6_house : MethodName := ⟨RX6, "house", "(II)I"⟩
abbrev cX6_alter : ByteArray := prog_1_method_8_code
def yX6_alter : MethodName := ⟨RX6, "alter", "(III)I"⟩
abbrev cX6_set : ByteArray := prog_1_method_9_code
def yX6_set : MethodName := ⟨RX6, "set", "(II)I"⟩
abbrev cX6_rain : ByteArray := prog_1_method_10_code
def yX6_rain : MethodName := ⟨RX6, "rain", "(IZ)I"⟩
abbrev cX6_offer : ByteArray := prog_1_method_11_code
def yX6_offer : MethodName := ⟨RX6, "offer", "(II)I"⟩
abbrev cX6_go : ByteArray := prog_1_method_12_code
def yX6_go : MethodName := ⟨RX6, "go", "(I)I"⟩
abbrev cX6_runs : ByteArray := prog_1_method_13_code
def yX6_runs : MethodName := ⟨RX6, "runs", "(II)I"⟩
abbrev cX6_ahead : ByteArray := prog_1_method_14_code
def yX6_ahead : MethodName := ⟨RX6, "ahead", "(II)I"⟩
abbrev cX6_bare : ByteArray := prog_1_method_15_code
def yX6_bare : MethodName := ⟨RX6, "bare", "(I)I"⟩
abbrev cX6_best : ByteArray := prog_1_method_16_code
def yX6_best : MethodName := ⟨RX6, "best", "(II)I"⟩
abbrev cX6_change : ByteArray := prog_1_method_17_code
def yX6_change : MethodName := ⟨RX6, "change", "(II)I"⟩
abbrev cX6_cooks : ByteArray := prog_1_method_18_code
def yX6_cooks : MethodName := ⟨RX6, "cooks", "(II)I"⟩
abbrev cX6_appease : ByteArray := prog_1_method_19_code
def yX6_appease : MethodName := ⟨RX6, "appease", "(II)I"⟩
abbrev cX6_pray : ByteArray := prog_1_method_20_code
def yX6_pray : MethodName := ⟨RX6, "pray", "(I)I"⟩
abbrev cX6_value : ByteArray := prog_1_method_21_code
def yX6_value : MethodName := ⟨RX6, "value", "(II)I"⟩
abbrev cX6_share : ByteArray := prog_1_method_22_code
def yX6_share : MethodName := ⟨RX6, "share", "(III)J"⟩
abbrev cX6_luck : ByteArray := prog_1_method_23_code
def yX6_luck : MethodName := ⟨RX6, "luck", "(III)J"⟩
abbrev cX6_mean : ByteArray := prog_1_method_24_code
def yX6_mean : MethodName := ⟨RX6, "mean", "(III)J"⟩
abbrev cX6_see : ByteArray := prog_1_method_25_code
def yX6_see : MethodName := ⟨RX6, "see", "(III)I"⟩
abbrev cX6_forget : ByteArray := prog_1_method_26_code
def yX6_forget : MethodName := ⟨RX6, "forget", "(I)I"⟩
abbrev cX6_fits : ByteArray := prog_1_method_27_code
def yX6_fits : MethodName := ⟨RX6, "fits", "(I)I"⟩
abbrev cX6_look : ByteArray := prog_1_method_28_code
def yX6_look : MethodName := ⟨RX6, "look", "(I)I"⟩
abbrev cX6_drift : ByteArray := prog_1_method_29_code
def yX6_drift : MethodName := ⟨RX6, "drift", "(III)I"⟩
abbrev cX6_keep : ByteArray := prog_1_method_30_code
def yX6_keep : MethodName := ⟨RX6, "keep", "(I)I"⟩
abbrev cX6_back : ByteArray := prog_1_method_31_code
def yX6_back : MethodName := ⟨RX6, "back", "(I)I"⟩
abbrev cX6_sheet : ByteArray := prog_1_method_32_code
def yX6_sheet : MethodName := ⟨RX6, "sheet", "(III)I"⟩
abbrev cX6_lay : ByteArray := prog_1_method_33_code
def yX6_lay : MethodName := ⟨RX6, "lay", "(III)I"⟩
abbrev cX6_read : ByteArray := prog_1_method_34_code
def yX6_read : MethodName := ⟨RX6, "read", "(IIII)I"⟩
abbrev cX6_torn : ByteArray := prog_1_method_35_code
def yX6_torn : MethodName := ⟨RX6, "torn", "()I"⟩
abbrev cX6_count : ByteArray := prog_1_method_36_code
def yX6_count : MethodName := ⟨RX6, "count", "(I)I"⟩
abbrev cX6_outside : ByteArray := prog_1_method_37_code
def yX6_outside : MethodName := ⟨RX6, "outside", "(III)Z"⟩
abbrev cX6_startTrial : ByteArray := prog_1_method_38_code
def yX6_startTrial : MethodName := ⟨RX6, "startTrial", "()V"⟩
abbrev cX6_lossAsItIs : ByteArray := prog_1_method_39_code
def yX6_lossAsItIs : MethodName := ⟨RX6, "lossAsItIs", "(I)I"⟩
abbrev cX6_lossByKinds : ByteArray := prog_1_method_40_code
def yX6_lossByKinds : MethodName := ⟨RX6, "lossByKinds", "(II)I"⟩
abbrev cX6_playWith : ByteArray := prog_1_method_41_code
def yX6_playWith : MethodName := ⟨RX6, "playWith", "(III)LFireLeave$City;"⟩
abbrev cX6_oddsOfOut : ByteArray := prog_1_method_42_code
def yX6_oddsOfOut : MethodName := ⟨RX6, "oddsOfOut", "(II)J"⟩
abbrev cX6_power : ByteArray := prog_1_method_43_code
def yX6_power : MethodName := ⟨RX6, "power", "(II)J"⟩
abbrev cX6_factorial : ByteArray := prog_1_method_44_code
def yX6_factorial : MethodName := ⟨RX6, "factorial", "(I)J"⟩
abbrev cX6_partOfFraction : ByteArray := prog_1_method_45_code
def yX6_partOfFraction : MethodName := ⟨RX6, "partOfFraction", "(JJI)J"⟩
abbrev cX6_commonDivisor : ByteArray := prog_1_method_46_code
def yX6_commonDivisor : MethodName := ⟨RX6, "commonDivisor", "(JJ)J"⟩
abbrev cX6_slot : ByteArray := prog_1_method_47_code
def yX6_slot : MethodName := ⟨RX6, "slot", "(II)I"⟩
abbrev cX6_tryKinds : ByteArray := prog_1_method_48_code
def yX6_tryKinds : MethodName := ⟨RX6, "tryKinds", "(II)V"⟩
abbrev cX6_tallyFitting : ByteArray := prog_1_method_49_code
def yX6_tallyFitting : MethodName := ⟨RX6, "tallyFitting", "()I"⟩
abbrev cX6_mostInRow : ByteArray := prog_1_method_50_code
def yX6_mostInRow : MethodName := ⟨RX6, "mostInRow", "(I)I"⟩
abbrev cX6_imagesKept : ByteArray := prog_1_method_51_code
def yX6_imagesKept : MethodName := ⟨RX6, "imagesKept", "()I"⟩
def RX7 : String := "FireLeaveModel"
def TX7 : u_T := fun k => match k with
  | 0 => ("FireLeaveModel", "st", "[I", true)
  | 1 => ("FireLeaveModel", "now", "[I", true)
  | 2 => ("FireLeaveModel", "isKept", "[Z", true)
  | 3 => ("FireLeaveModel", "houses", "I", false)
  | 4 => ("FireLeaveModel", "draft", "[I", true)
  | 5 => ("FireLeaveModel", "dHouses", "I", false)
  | 6 => ("FireLeaveModel", "hasFire", "Z", false)
  | 7 => ("FireLeaveModel", "offerMany", "I", false)
  | 8 => ("FireLeaveModel", "offered", "[I", true)
  | 9 => ("FireLeaveModel", "highest", "I", false)
  | 10 => ("FireLeaveModel", "tape", "[I", true)
  | 11 => ("FireLeaveModel", "taped", "I", false)
  | 12 => ("FireLeaveModel", "pos", "I", false)
  | 13 => ("FireLeaveModel", "from", "I", false)
  | 14 => ("FireLeaveModel", "sort", "I", false)
  | 15 => ("FireLeaveModel", "value", "I", false)
  | 16 => ("FireLeaveModel", "fault", "I", false)
  | 17 => ("FireLeaveModel", "wrongAt", "I", false)
  | 18 => ("FireLeaveModel", "safeSum", "J", false)
  | 19 => ("FireLeaveModel", "lossSum", "J", false)
  | 20 => ("FireLeaveModel", "allWays", "J", false)
  | 21 => ("FireLeaveModel", "left", "[I", true)
  | 22 => ("FireLeaveModel", "ways", "[I", true)
  | 23 => ("FireLeaveModel", "lanes", "[I", true)
  | 24 => ("FireLeaveModel", "sizes", "[I", true)
  | 25 => ("FireLeaveModel", "cells", "[I", true)
  | 26 => ("FireLeaveModel", "torn", "I", false)
  | _ => ("FireLeaveModel", "had", "[I", true)
def tyX7 : Nat → FieldType := fun k => match k with
  | 0 => .array .int
  | 1 => .array .int
  | 2 => .array .boolean
  | 3 => .int
  | 4 => .array .int
  | 5 => .int
  | 6 => .boolean
  | 7 => .int
  | 8 => .array .int
  | 9 => .int
  | 10 => .array .int
  | 11 => .int
  | 12 => .int
  | 13 => .int
  | 14 => .int
  | 15 => .int
  | 16 => .int
  | 17 => .int
  | 18 => .long
  | 19 => .long
  | 20 => .long
  | 21 => .array .int
  | 22 => .array .int
  | 23 => .array .int
  | 24 => .array .int
  | 25 => .array .int
  | 26 => .int
  | _ => .array .int
abbrev wsX70 : List Cond := u_ws RX7 TX7 28
theorem nmX7 : ∀ a, a < 28 → ∀ b, b < 28 → a ≠ b → (TX7 a).2.1 ≠ (TX7 b).2.1 := by decide +kernel
theorem tyX7_ok : ∀ k, k < 28 → parseFieldDescriptor (TX7 k).2.2.1 = some (tyX7 k) := by decide +kernel
abbrev cX7_init : ByteArray := prog_9_method_1_code
def yX7_init : MethodName := ⟨RX7, "<init>", "()V"⟩
abbrev cX7_in : ByteArray := prog_9_method_3_code
def yX7_in : MethodName := ⟨RX7, "in", "(JJJ)Z"⟩
abbrev cX7_flag : ByteArray := prog_9_method_4_code
def yX7_flag : MethodName := ⟨RX7, "flag", "(Z)I"⟩
abbrev cX7_firstDraft : ByteArray := prog_9_method_5_code
def yX7_firstDraft : MethodName := ⟨RX7, "firstDraft", "()V"⟩
abbrev cX7_keepDraft : ByteArray := prog_9_method_6_code
def yX7_keepDraft : MethodName := ⟨RX7, "keepDraft", "()V"⟩
abbrev cX7_feed : ByteArray := prog_9_method_7_code
def yX7_feed : MethodName := ⟨RX7, "feed", "(I)I"⟩
abbrev cX7_end : ByteArray := prog_9_method_8_code
def yX7_end : MethodName := ⟨RX7, "end", "(I)I"⟩
abbrev cX7_needs : ByteArray := prog_9_method_9_code
def yX7_needs : MethodName := ⟨RX7, "needs", "(ZI)V"⟩
abbrev cX7_byteAt : ByteArray := prog_9_method_10_code
def yX7_byteAt : MethodName := ⟨RX7, "byteAt", "(I)I"⟩
abbrev cX7_is : ByteArray := prog_9_method_11_code
def yX7_is : MethodName := ⟨RX7, "is", "(IIII)Z"⟩
abbrev cX7_ends : ByteArray := prog_9_method_12_code
def yX7_ends : MethodName := ⟨RX7, "ends", "(III)Z"⟩
abbrev cX7_lineNow : ByteArray := prog_9_method_13_code
def yX7_lineNow : MethodName := ⟨RX7, "lineNow", "()I"⟩
abbrev cX7_next : ByteArray := prog_9_method_14_code
def yX7_next : MethodName := ⟨RX7, "next", "()V"⟩
abbrev cX7_looked : ByteArray := prog_9_method_15_code
def yX7_looked : MethodName := ⟨RX7, "looked", "(II)I"⟩
abbrev cX7_readNumber : ByteArray := prog_9_method_16_code
def yX7_readNumber : MethodName := ⟨RX7, "readNumber", "(II)I"⟩
abbrev cX7_readHouse : ByteArray := prog_9_method_17_code
def yX7_readHouse : MethodName := ⟨RX7, "readHouse", "()I"⟩
abbrev cX7_readRain : ByteArray := prog_9_method_18_code
def yX7_readRain : MethodName := ⟨RX7, "readRain", "()V"⟩
abbrev cX7_readLineOf : ByteArray := prog_9_method_19_code
def yX7_readLineOf : MethodName := ⟨RX7, "readLineOf", "(I)V"⟩
abbrev cX7_readLine : ByteArray := prog_9_method_20_code
def yX7_readLine : MethodName := ⟨RX7, "readLine", "()V"⟩
abbrev cX7_offersCome : ByteArray := prog_9_method_21_code
def yX7_offersCome : MethodName := ⟨RX7, "offersCome", "()V"⟩
abbrev cX7_text : ByteArray := prog_9_method_22_code
def yX7_text : MethodName := ⟨RX7, "text", "()I"⟩
abbrev cX7_fault : ByteArray := prog_9_method_23_code
def yX7_fault : MethodName := ⟨RX7, "fault", "()I"⟩
abbrev cX7_isHouse : ByteArray := prog_9_method_24_code
def yX7_isHouse : MethodName := ⟨RX7, "isHouse", "(I)Z"⟩
abbrev cX7_isPart : ByteArray := prog_9_method_25_code
def yX7_isPart : MethodName := ⟨RX7, "isPart", "(I)Z"⟩
abbrev cX7_starts : ByteArray := prog_9_method_26_code
def yX7_starts : MethodName := ⟨RX7, "starts", "()V"⟩
abbrev cX7_settles : ByteArray := prog_9_method_27_code
def yX7_settles : MethodName := ⟨RX7, "settles", "()V"⟩
abbrev cX7_lesser : ByteArray := prog_9_method_28_code
def yX7_lesser : MethodName := ⟨RX7, "lesser", "(II)I"⟩
abbrev cX7_burns : ByteArray := prog_9_method_29_code
def yX7_burns : MethodName := ⟨RX7, "burns", "(II)I"⟩
abbrev cX7_gives : ByteArray := prog_9_method_30_code
def yX7_gives : MethodName := ⟨RX7, "gives", "(II)V"⟩
abbrev cX7_asks : ByteArray := prog_9_method_31_code
def yX7_asks : MethodName := ⟨RX7, "asks", "()V"⟩
abbrev cX7_nightGoes : ByteArray := prog_9_method_32_code
def yX7_nightGoes : MethodName := ⟨RX7, "nightGoes", "()V"⟩
abbrev cX7_nightsGo : ByteArray := prog_9_method_33_code
def yX7_nightsGo : MethodName := ⟨RX7, "nightsGo", "(I)V"⟩
abbrev cX7_lossOf : ByteArray := prog_9_method_34_code
def yX7_lossOf : MethodName := ⟨RX7, "lossOf", "(I)I"⟩
abbrev cX7_allOf : ByteArray := prog_9_method_35_code
def yX7_allOf : MethodName := ⟨RX7, "allOf", "(I)I"⟩
abbrev cX7_rule : ByteArray := prog_9_method_36_code
def yX7_rule : MethodName := ⟨RX7, "rule", "(I)I"⟩
abbrev cX7_house : ByteArray := prog_9_method_37_code
def yX7_house : MethodName := ⟨RX7, "house", "(II)I"⟩
abbrev cX7_becomes : ByteArray := prog_9_method_38_code
def yX7_becomes : MethodName := ⟨RX7, "becomes", "(II)I"⟩
abbrev cX7_alter : ByteArray := prog_9_method_39_code
def yX7_alter : MethodName := ⟨RX7, "alter", "(III)I"⟩
abbrev cX7_set : ByteArray := prog_9_method_40_code
def yX7_set : MethodName := ⟨RX7, "set", "(II)I"⟩
abbrev cX7_rain : ByteArray := prog_9_method_41_code
def yX7_rain : MethodName := ⟨RX7, "rain", "(IZ)I"⟩
abbrev cX7_offer : ByteArray := prog_9_method_42_code
def yX7_offer : MethodName := ⟨RX7, "offer", "(II)I"⟩
abbrev cX7_go : ByteArray := prog_9_method_43_code
def yX7_go : MethodName := ⟨RX7, "go", "(I)I"⟩
abbrev cX7_runs : ByteArray := prog_9_method_44_code
def yX7_runs : MethodName := ⟨RX7, "runs", "(II)I"⟩
abbrev cX7_ahead : ByteArray := prog_9_method_45_code
def yX7_ahead : MethodName := ⟨RX7, "ahead", "(II)I"⟩
abbrev cX7_bare : ByteArray := prog_9_method_46_code
def yX7_bare : MethodName := ⟨RX7, "bare", "(I)I"⟩
abbrev cX7_numbers : ByteArray := prog_9_method_47_code
def yX7_numbers : MethodName := ⟨RX7, "numbers", "()I"⟩
abbrev cX7_startsBy : ByteArray := prog_9_method_48_code
def yX7_startsBy : MethodName := ⟨RX7, "startsBy", "(I)V"⟩
abbrev cX7_best : ByteArray := prog_9_method_49_code
def yX7_best : MethodName := ⟨RX7, "best", "(II)I"⟩
abbrev cX7_change : ByteArray := prog_9_method_50_code
def yX7_change : MethodName := ⟨RX7, "change", "(II)I"⟩
abbrev cX7_bitsOf : ByteArray := prog_9_method_51_code
def yX7_bitsOf : MethodName := ⟨RX7, "bitsOf", "(I)I"⟩
abbrev cX7_startsWithCooks : ByteArray := prog_9_method_52_code
def yX7_startsWithCooks : MethodName := ⟨RX7, "startsWithCooks", "(I)V"⟩
abbrev cX7_cooks : ByteArray := prog_9_method_53_code
def yX7_cooks : MethodName := ⟨RX7, "cooks", "(II)I"⟩
abbrev cX7_appease : ByteArray := prog_9_method_54_code
def yX7_appease : MethodName := ⟨RX7, "appease", "(II)I"⟩
abbrev cX7_pray : ByteArray := prog_9_method_55_code
def yX7_pray : MethodName := ⟨RX7, "pray", "(I)I"⟩
abbrev cX7_valueOf : ByteArray := prog_9_method_56_code
def yX7_valueOf : MethodName := ⟨RX7, "valueOf", "(II)I"⟩
abbrev cX7_value : ByteArray := prog_9_method_57_code
def yX7_value : MethodName := ⟨RX7, "value", "(II)I"⟩
abbrev cX7_common : ByteArray := prog_9_method_58_code
def yX7_common : MethodName := ⟨RX7, "common", "(JJ)J"⟩
abbrev cX7_told : ByteArray := prog_9_method_59_code
def yX7_told : MethodName := ⟨RX7, "told", "(JJI)J"⟩
abbrev cX7_orders : ByteArray := prog_9_method_60_code
def yX7_orders : MethodName := ⟨RX7, "orders", "(I)J"⟩
abbrev cX7_share : ByteArray := prog_9_method_61_code
def yX7_share : MethodName := ⟨RX7, "share", "(III)J"⟩
abbrev cX7_findOdds : ByteArray := prog_9_method_62_code
def yX7_findOdds : MethodName := ⟨RX7, "findOdds", "(II)V"⟩
abbrev cX7_luck : ByteArray := prog_9_method_63_code
def yX7_luck : MethodName := ⟨RX7, "luck", "(III)J"⟩
abbrev cX7_mean : ByteArray := prog_9_method_64_code
def yX7_mean : MethodName := ⟨RX7, "mean", "(III)J"⟩
abbrev cX7_see : ByteArray := prog_9_method_65_code
def yX7_see : MethodName := ⟨RX7, "see", "(III)I"⟩
abbrev cX7_forget : ByteArray := prog_9_method_66_code
def yX7_forget : MethodName := ⟨RX7, "forget", "(I)I"⟩
abbrev cX7_isFit : ByteArray := prog_9_method_67_code
def yX7_isFit : MethodName := ⟨RX7, "isFit", "(I)Z"⟩
abbrev cX7_fits : ByteArray := prog_9_method_68_code
def yX7_fits : MethodName := ⟨RX7, "fits", "(I)I"⟩
abbrev cX7_look : ByteArray := prog_9_method_69_code
def yX7_look : MethodName := ⟨RX7, "look", "(I)I"⟩
abbrev cX7_drift : ByteArray := prog_9_method_70_code
def yX7_drift : MethodName := ⟨RX7, "drift", "(III)I"⟩
abbrev cX7_copies : ByteArray := prog_9_method_71_code
def yX7_copies : MethodName := ⟨RX7, "copies", "(II)V"⟩
abbrev cX7_keep : ByteArray := prog_9_method_72_code
def yX7_keep : MethodName := ⟨RX7, "keep", "(I)I"⟩
abbrev cX7_back : ByteArray := prog_9_method_73_code
def yX7_back : MethodName := ⟨RX7, "back", "(I)I"⟩
abbrev cX7_isSheet : ByteArray := prog_9_method_74_code
def yX7_isSheet : MethodName := ⟨RX7, "isSheet", "(II)Z"⟩
abbrev cX7_sheet : ByteArray := prog_9_method_75_code
def yX7_sheet : MethodName := ⟨RX7, "sheet", "(III)I"⟩
abbrev cX7_lay : ByteArray := prog_9_method_76_code
def yX7_lay : MethodName := ⟨RX7, "lay", "(III)I"⟩
abbrev cX7_read : ByteArray := prog_9_method_77_code
def yX7_read : MethodName := ⟨RX7, "read", "(IIII)I"⟩
abbrev cX7_torn : ByteArray := prog_9_method_78_code
def yX7_torn : MethodName := ⟨RX7, "torn", "()I"⟩
abbrev cX7_count : ByteArray := prog_9_method_79_code
def yX7_count : MethodName := ⟨RX7, "count", "(I)I"⟩
def RJx145de : String := "java/io/Serializable"
def RJx9f9b0 : String := "java/lang/CharSequence"
def RJxb160c : String := "java/lang/Comparable"
def RJ6 : String := "java/lang/Integer"
abbrev cJ6_bitCount_0f7a4 : ByteArray := prog_10_method_49_code
def yJ6_bitCount_0f7a4 : MethodName := ⟨RJ6, "bitCount", "(I)I"⟩
def RJ9 : String := "java/lang/Math"
abbrev cJ9_abs_067f4 : ByteArray := prog_11_method_61_code
def yJ9_abs_067f4 : MethodName := ⟨RJ9, "abs", "(J)J"⟩
abbrev cJ9_max_7cf53 : ByteArray := prog_11_method_65_code
def yJ9_max_7cf53 : MethodName := ⟨RJ9, "max", "(II)I"⟩
abbrev cJ9_min_7cf53 : ByteArray := prog_11_method_69_code
def yJ9_min_7cf53 : MethodName := ⟨RJ9, "min", "(II)I"⟩
def RJ0 : String := "java/lang/String"
abbrev cJ0_length_8abf5 : ByteArray := prog_12_method_54_code
def yJ0_length_8abf5 : MethodName := ⟨RJ0, "length", "()I"⟩
abbrev cJ0_charAt_5068e : ByteArray := prog_12_method_56_code
def yJ0_charAt_5068e : MethodName := ⟨RJ0, "charAt", "(I)C"⟩
abbrev cJ0_coder_7d493 : ByteArray := prog_12_method_152_code
def yJ0_coder_7d493 : MethodName := ⟨RJ0, "coder", "()B"⟩
abbrev cJ0_isLatin1_aae02 : ByteArray := prog_12_method_154_code
def yJ0_isLatin1_aae02 : MethodName := ⟨RJ0, "isLatin1", "()Z"⟩
abbrev cJ0_checkIndex_df160 : ByteArray := prog_12_method_155_code
def yJ0_checkIndex_df160 : MethodName := ⟨RJ0, "checkIndex", "(II)V"⟩
def RJ1 : String := "java/lang/StringLatin1"
abbrev cJ1_charAt_3b067 : ByteArray := prog_13_method_2_code
def yJ1_charAt_3b067 : MethodName := ⟨RJ1, "charAt", "([BI)C"⟩
def RJ2 : String := "java/lang/StringUTF16"
abbrev cJ2_getChar_3b067 : ByteArray := prog_14_method_5_code
def yJ2_getChar_3b067 : MethodName := ⟨RJ2, "getChar", "([BI)C"⟩
abbrev cJ2_length_9d52b : ByteArray := prog_14_method_6_code
def yJ2_length_9d52b : MethodName := ⟨RJ2, "length", "([B)I"⟩
abbrev cJ2_charAt_3b067 : ByteArray := prog_14_method_83_code
def yJ2_charAt_3b067 : MethodName := ⟨RJ2, "charAt", "([BI)C"⟩
abbrev cJ2_checkIndex_2214a : ByteArray := prog_14_method_91_code
def yJ2_checkIndex_2214a : MethodName := ⟨RJ2, "checkIndex", "(I[B)V"⟩
def RJ10 : String := "java/lang/System"
def RJxfd54e : String := "java/lang/constant/Constable"
def RJx3cf43 : String := "java/lang/constant/ConstantDesc"
def RJ7 : String := "java/util/Arrays"
abbrev cJ7_fill_53178 : ByteArray := prog_16_method_103_code
def yJ7_fill_53178 : MethodName := ⟨RJ7, "fill", "([II)V"⟩
def RJ3 : String := "jdk/internal/util/Preconditions"
abbrev cJ3_checkIndex_8e157 : ByteArray := prog_17_method_11_code
def yJ3_checkIndex_8e157 : MethodName := ⟨RJ3, "checkIndex", "(IILjava/util/function/BiFunction;)I"⟩
def RL : String := "FireLeaveLaw"
abbrev cL_law : ByteArray := code
def yL_law : MethodName := ⟨RL, "law", "([I)Z"⟩
abbrev vwCl : List vw_C := [(RX0, TX0, 12), (RX1, TX1, 3), (RX2, TX2, 4), (RX3, TX3, 4), (RX4, TX4, 4), (RX5, TX5, 9), (RX6, TX6, 10), (RX7, TX7, 28)]
end
section

/-! THE ABSTRACT HEAP: cells by their places; a method's walk in words of it -/
def gw : List Cond := lw_tbl.filter goodWord
theorem gw_in {w : Cond} (h : w ∈ lw_tbl) (g : goodWord w = true) : w ∈ gw := List.mem_filter.mpr ⟨h, g⟩
theorem gw_good {w : Cond} (h : w ∈ gw) : GoodIn gw [w] := fun v hv => by
  rw [List.mem_singleton.mp hv]
  exact ⟨h, good_of_word (List.mem_filter.mp h).2⟩
theorem gw_all : GoodIn gw gw := fun w h => ⟨h, good_of_word (List.mem_filter.mp h).2⟩
abbrev ab_C : Type := (Nat × Nat × (Nat → Int32)) ⊕ ((Nat × List (Option Nat)) ⊕ (Nat × List Value))
abbrev ab_H : Type := List ab_C
abbrev aI (t n : Nat) (f : Nat → Int32) : ab_C := .inl (t, n, f)
abbrev aR (t : Nat) (l : List (Option Nat)) : ab_C := .inr (.inl (t, l))
abbrev aO (c : Nat) (fs : List Value) : ab_C := .inr (.inr (c, fs))
/-- an abstract value's own: a place becomes an address, a text's number its address -/
def xv (ad sk : Nat → Nat) : Value → Value
  | .ref k => .ref (ad k)
  | .retAddr i => .ref (sk i)
  | .int x => .int x
  | .long x => .long x
  | .float x => .float x
  | .double x => .double x
  | .null => .null
def xc (ad sk : Nat → Nat) (ac : Nat → ClassId) : ab_C → va_E
  | .inl (t, n, f) => .inl (ac t, n, .inl f)
  | .inr (.inl (t, l)) => .inl (ac t, l.length, .inr (.inr (.inr (.inr (fun j => (l.getD j none).map ad)))))
  | .inr (.inr (c, fs)) => .inr (c, fs.map (xv ad sk))
def xw (ad sk : Nat → Nat) (ac : Nat → ClassId) (h : ab_H) : va_W := h.mapIdx (fun i c => (ad i, xc ad sk ac c))
theorem xw_at {ad sk : Nat → Nat} {ac : Nat → ClassId} {h : ab_H} {k : Nat} : (xw ad sk ac h)[k]? = (h[k]?).map (fun c => (ad k, xc ad sk ac c)) := by
  simp [xw, List.getElem?_mapIdx]
theorem xw_of {ad sk : Nat → Nat} {ac : Nat → ClassId} {h : ab_H} {k : Nat} {c : ab_C} (hk : h[k]? = some c) : (xw ad sk ac h)[k]? = some (ad k, xc ad sk ac c) := by
  rw [xw_at, hk]; rfl
theorem xw_set {ad sk : Nat → Nat} {ac : Nat → ClassId} {h : ab_H} {k : Nat} {c : ab_C} : (xw ad sk ac h).set k (ad k, xc ad sk ac c) = xw ad sk ac (h.set k c) := by
  apply List.ext_getElem?
  intro i
  rw [xw_at, List.getElem?_set, List.getElem?_set, xw_at]
  have hl : (xw ad sk ac h).length = h.length := by simp [xw]
  rw [hl]
  by_cases hk : k = i
  · subst hk
    simp only [if_true]
    by_cases h2 : k < h.length <;> simp [h2]
  · simp [hk]
theorem xw_push {ad sk : Nat → Nat} {ac : Nat → ClassId} {h : ab_H} {c : ab_C} : xw ad sk ac (h ++ [c]) = xw ad sk ac h ++ [(ad h.length, xc ad sk ac c)] := by
  simp [xw, List.mapIdx_append]
def ab_ty (ac : Nat → ClassId) : List (ClassId × FieldType) := [(ac 0, .int), (ac 1, .byte), (ac 2, .boolean), (ac 3, .object RX1), (ac 4, .object RX2)]
def ab_isN : Cond → Bool
  | .methodLinkNest .. => true
  | _ => false
def ab_str : List (Nat × String) := [(97, "polite"), (103, "rude"), (105, "deaf"), (107, "cook"), (109, "fire"), (111, "rain"), (113, "offer")]
def ab_len : List Nat := [6, 4, 4, 4, 4, 4, 5]
def ab_byt : List (List Int32) := [[112, 111, 108, 105, 116, 101], [114, 117, 100, 101], [100, 101, 97, 102], [99, 111, 111, 107], [102, 105, 114, 101], [114, 97, 105, 110], [111, 102, 102, 101, 114]]
def ab_fac (j : Nat) : Int32 := ([1, 1, 2, 6, 24, 120] : List Int32).getD j 0
/-- what nobody writes: links of the nest, texts, statics, array classes -/
def SX (sk : Nat → Nat) (A : Nat → Prop) (U : State) (H : Heap) : Prop :=
  (∀ w ∈ lw_tbl, ab_isN w = true → va_Nw w U) ∧
  (∀ i, i < 7 → vk_R RX5 (ab_str.getD i (0, "")).1 (ab_str.getD i (0, "")).2 (sk i) U) ∧
  (∃ adV : Nat → Nat, vk_S 7 ab_len ab_byt sk adV A U H) ∧
  va_Z "java/lang/String" "COMPACT_STRINGS" "Z" (.int 1) A U H ∧
  (∃ t : Nat, va_Z RX6 "FACTORIAL" "[I" (.ref t) A U H ∧ va_T .int t 6 (fun j => .int (ab_fac j)) A U H) ∧
  va_AO RX1 U ∧ va_AO RX2 U
theorem SX.same {sk : Nat → Nat} {A : Nat → Prop} {u U : State} {H : Heap} (hv : U.vm = u.vm) (h : SX sk A u H) : SX sk A U H := by
  have hal : u.vm.Alike U.vm := by rw [hv]; exact Vm.Alike.refl _
  obtain ⟨h1, h2, ⟨adV, h3⟩, h4, ⟨t, h5, h6⟩, h7, h8⟩ := h
  refine ⟨fun w hw hn => ?_, fun i hi => vk_R.same hv (h2 i hi), ⟨adV, vk_S.moved hal h3⟩, va_Z.moved hal h4, ⟨t, va_Z.moved hal h5, va_T.moved hal h6⟩, va_AO.moved hal h7, va_AO.moved hal h8⟩
  cases w <;> first | (simp [ab_isN] at hn; done) | exact va_Nw.same rfl hv.symm (h1 _ hw hn)
theorem SX.move {sk : Nat → Nat} {A B : Nat → Prop} {s U : State} {H : Heap} {locs : List Loc} (h : SX sk A s s.heap) (hS : va_S A s.heap H locs) (hW : s.WarmedH U.vm) (hU : U.heap = H) (hB : ∀ q, B q → A q) : SX sk B U U.heap := by
  have hal := hW.alike
  have hk : ∀ a : Nat, a < s.heap.size → ¬ A a → U.heap[a]? = s.heap[a]? := fun a h1 h2 => by rw [hU]; exact hS.2.1 a h1 h2
  obtain ⟨h1, h2, ⟨adV, h3⟩, h4, ⟨t, h5, h6⟩, h7, h8⟩ := h
  refine ⟨fun w hw hn => ?_, fun i hi => vk_R.warm hW (h2 i hi), ⟨adV, (vk_S.moved hal (h3.kept hk)).narrow hB⟩, (va_Z.moved hal (h4.kept hk)).narrow hB, ⟨t, (va_Z.moved hal (h5.kept hk)).narrow hB, (va_T.moved hal (h6.kept hk)).narrow hB⟩, va_AO.moved hal h7, va_AO.moved hal h8⟩
  cases w <;> first | (simp [ab_isN] at hn; done) | exact va_Nw.warmM hW (h1 _ hw hn)
def Cx (own nm : String) (cc : ByteArray) (nL : Nat) (ret : Option FieldType) (p : Program) (s : State) (m : MethodId) (args : Array Value) (meth : Method) (c : Code) : Prop :=
  p.tables.exec = Jvm.exec ∧ c.code = cc ∧ meth.sig.returnType = ret ∧ c.maxLocals = nL ∧ s.vm.findClass own = some m.cls ∧ (∀ w ∈ gw, w.before args s = true) ∧ meth.locks = false ∧ meth.name = nm
def Nw (dC : Nat → ClassId) (dI : Nat → Nat → Nat) (ac : Nat → ClassId) (sk : Nat → Nat) (A : Nat → Prop) (ad0 : Nat → Nat) (n0 : Nat) (s : State) (nL : Nat) (L : List (Nat × Value)) (h : ab_H) (ad : Nat → Nat) (H : Heap) (locs : List Loc) (ls : Array Slot) : Prop :=
  (n0 ≤ h.length ∧ (∀ j, j < n0 → ad j = ad0 j) ∧ (h.length = n0 → ad = ad0)) ∧ va_P (dC, dI) vwCl (xw ad sk ac h) H ∧ va_D A (xw ad sk ac h) ∧ va_S A s.heap H locs ∧ lv_has ls nL (L.map (fun q => (q.1, xv ad sk q.2)))
/-- which instruction leaves with which answer -/
def ab_ret (ret : Option FieldType) (v : Option Value) (ins : Instr) : Prop :=
  (ret = none ∧ v = none ∧ ins = .return_) ∨ (∃ ty x, ret = some ty ∧ v = some (.int x) ∧ ins = .ireturn ∧ narrow ty (.int x) = .int x) ∨ (ret = some .long ∧ ∃ x, v = some (.long x) ∧ ins = .lreturn) ∨ (∃ t r, ret = some (.object t) ∧ v = some (.ref r) ∧ ins = .areturn)
def Ev (own nm : String) (cc : ByteArray) (nL : Nat) (ret : Option FieldType) (R : Room) (Q : Option Value → ab_H → Prop) (mc ms : Nat) (p : Program) (l : Launch) (e : Env) (s : State) (m : MethodId) (args : Array Value) (below : List Frame) (meth : Method) (c : Code) (dC : Nat → ClassId) (dI : Nat → Nat → Nat) (ac : Nat → ClassId) (sk : Nat → Nat) (A : Nat → Prop) (ad0 : Nat → Nat) (n0 : Nat) (Qs : State → Prop) : Prop :=
  Cx own nm cc nL ret p s m args meth c ∧ (∀ q, s.heap.size ≤ q → A q) ∧ SX sk A s s.heap ∧ va_K (dC, dI) vwCl (ab_ty ac) s ∧
  ∀ (ad : Nat → Nat) (H : Heap) (locs : List Loc) (ls : Array Slot) (v : Option Value) (ins : Instr) (h : ab_H) (pcr : Nat), Q v h → ab_ret ret v ins → decode cc pcr = .ok (ins, 1) → Nw dC dI ac sk A ad0 n0 s nL [] h ad H locs ls → W p l e R s m args below meth c H locs mc ms Qs (F0 m pcr ls (v.toList.map (xv ad sk)))
def Vd (own nm : String) (cc : ByteArray) (nL : Nat) (ret : Option FieldType) (R : Room) (Q : Option Value → ab_H → Prop) (mc ms k n pc : Nat) (L : List (Nat × Value)) (st : List Value) (h : ab_H) : Prop :=
  ∀ (p : Program) (l : Launch) (e : Env) (s : State) (m : MethodId) (args : Array Value) (below : List Frame) (meth : Method) (c : Code) (dC : Nat → ClassId) (dI : Nat → Nat → Nat) (ac : Nat → ClassId) (sk : Nat → Nat) (A : Nat → Prop) (ad0 : Nat → Nat) (n0 : Nat) (Qs : State → Prop),
    Ev own nm cc nL ret R Q mc ms p l e s m args below meth c dC dI ac sk A ad0 n0 Qs → ∀ (ad : Nat → Nat) (H : Heap) (locs : List Loc) (ls : Array Slot), Nw dC dI ac sk A ad0 n0 s nL L h ad H locs ls → W p l e R s m args below meth c H locs k n Qs (F0 m pc ls (st.map (xv ad sk)))
theorem xv_cat (ad sk : Nat → Nat) (v : Value) : (xv ad sk v).category = v.category := by cases v <;> rfl
theorem xv_cats (ad sk : Nat → Nat) (st : List Value) : ((st.map (xv ad sk)).map fun v => v.category) = st.map fun v => v.category := by
  rw [List.map_map]
  exact List.map_congr_left (fun v _ => xv_cat ad sk v)
/-- a local's value -/
def ab_lk (L : List (Nat × Value)) (i : Nat) : Option Value := (L.find? (fun q => q.1 == i)).map (fun q => q.2)
theorem ab_lk_in {L : List (Nat × Value)} {i : Nat} {v : Value} (h : ab_lk L i = some v) : (i, v) ∈ L := by
  unfold ab_lk at h
  cases hf : L.find? (fun q => q.1 == i) with
  | none => rw [hf] at h; cases h
  | some q =>
    rw [hf] at h
    have h1 := List.mem_of_find?_eq_some hf
    have h2 := List.find?_some hf
    have e1 : q.1 = i := by simpa using h2
    have e2 : q.2 = v := Option.some.inj h
    rw [← e1, ← e2]
    exact h1
theorem ab_lk_at {L : List (Nat × Value)} {i : Nat} {v : Value} {ad sk : Nat → Nat} {ls : Array Slot} {nL : Nat} (h : ab_lk L i = some v) (hl : lv_has ls nL (L.map (fun q => (q.1, xv ad sk q.2)))) : ls[i]? = some (.val (xv ad sk v)) :=
  hl.2.2 (i, xv ad sk v) (List.mem_map.mpr ⟨(i, v), ab_lk_in h, rfl⟩)
/-- storing a value of one word, of two -/
def ab_s1 (L : List (Nat × Value)) (i : Nat) (v : Value) : List (Nat × Value) := (i, v) :: L.filter (fun q => !(q.1 == i) && !(q.1 + 1 == i && q.2.category == 2))
def ab_s2 (L : List (Nat × Value)) (i : Nat) (v : Value) : List (Nat × Value) := (i, v) :: L.filter (fun q => !(q.1 == i) && (!(q.1 == i + 1) && !(q.1 + 1 == i && q.2.category == 2)))
theorem ab_s1_map {L : List (Nat × Value)} {i : Nat} {v : Value} {ad sk : Nat → Nat} : (i, xv ad sk v) :: (L.map (fun q => (q.1, xv ad sk q.2))).filter (fun q => !(q.1 == i) && !(q.1 + 1 == i && q.2.category == 2)) = (ab_s1 L i v).map (fun q => (q.1, xv ad sk q.2)) := by
  simp only [ab_s1, List.map_cons, List.filter_map]
  congr 2
  apply List.filter_congr
  intro q _
  simp [xv_cat]
theorem ab_s2_map {L : List (Nat × Value)} {i : Nat} {v : Value} {ad sk : Nat → Nat} : (i, xv ad sk v) :: (L.map (fun q => (q.1, xv ad sk q.2))).filter (fun q => !(q.1 == i) && (!(q.1 == i + 1) && !(q.1 + 1 == i && q.2.category == 2))) = (ab_s2 L i v).map (fun q => (q.1, xv ad sk q.2)) := by
  simp only [ab_s2, List.map_cons, List.filter_map]
  congr 2
  apply List.filter_congr
  intro q _
  simp [xv_cat]
theorem Nw.loc {dC : Nat → ClassId} {dI : Nat → Nat → Nat} {ac : Nat → ClassId} {sk : Nat → Nat} {A : Nat → Prop} {ad0 : Nat → Nat} {n0 : Nat} {s : State} {nL : Nat} {L L' : List (Nat × Value)} {h : ab_H} {ad : Nat → Nat} {H : Heap} {locs : List Loc} {ls : Array Slot} (N : Nw dC dI ac sk A ad0 n0 s nL L h ad H locs ls) (hs : ∀ q ∈ L', q ∈ L) : Nw dC dI ac sk A ad0 n0 s nL L' h ad H locs ls := by
  obtain ⟨h1, h2, h3, h4, h5, h6, h7⟩ := N
  refine ⟨h1, h2, h3, h4, h5, h6, fun q hq => ?_⟩
  obtain ⟨r, hr, e⟩ := List.mem_map.mp hq
  exact h7 q (List.mem_map.mpr ⟨r, hs r hr, e⟩)

section VROWS
variable {own nm : String} {cc : ByteArray} {nL : Nat} {ret : Option FieldType} {R : Room} {Q : Option Value → ab_H → Prop} {mc ms k n pc : Nat} {L : List (Nat × Value)} {st : List Value} {h : ab_H}
theorem v_iconst {z : Int} {v : Int32} (hd : decode cc pc = .ok (.iconst z, 1)) (hv : Int32.ofInt z = v) (kk : Vd own nm cc nL ret R Q mc ms k n (pc + 1) L (.int v :: st) h) : Vd own nm cc nL ret R Q mc ms k n pc L (st) h := by
  intro p l e s m args below meth c dC dI ac sk A ad0 n0 Qs E ad H locs ls N
  exact lv_iconst E.1.1 E.1.2.1 hd hv (kk p l e s m args below meth c dC dI ac sk A ad0 n0 Qs E ad H locs ls N)
theorem v_bipush {z : Int} {v : Int32} (hd : decode cc pc = .ok (.bipush z, 2)) (hv : (Int8.ofInt z).toInt32 = v) (kk : Vd own nm cc nL ret R Q mc ms k n (pc + 2) L (.int v :: st) h) : Vd own nm cc nL ret R Q mc ms k n pc L (st) h := by
  intro p l e s m args below meth c dC dI ac sk A ad0 n0 Qs E ad H locs ls N
  exact lv_bipush E.1.1 E.1.2.1 hd hv (kk p l e s m args below meth c dC dI ac sk A ad0 n0 Qs E ad H locs ls N)
theorem v_sipush {z : Int} {v : Int32} (hd : decode cc pc = .ok (.sipush z, 3)) (hv : (Int16.ofInt z).toInt32 = v) (kk : Vd own nm cc nL ret R Q mc ms k n (pc + 3) L (.int v :: st) h) : Vd own nm cc nL ret R Q mc ms k n pc L (st) h := by
  intro p l e s m args below meth c dC dI ac sk A ad0 n0 Qs E ad H locs ls N
  exact lv_sipush E.1.1 E.1.2.1 hd hv (kk p l e s m args below meth c dC dI ac sk A ad0 n0 Qs E ad H locs ls N)
theorem v_lconst {z : Fin 2} {v : Int64} (hd : decode cc pc = .ok (.lconst z, 1)) (hv : Int64.ofNat (z : Nat) = v) (kk : Vd own nm cc nL ret R Q mc ms k n (pc + 1) L (.long v :: st) h) : Vd own nm cc nL ret R Q mc ms k n pc L (st) h := by
  intro p l e s m args below meth c dC dI ac sk A ad0 n0 Qs E ad H locs ls N
  exact lv_lconst E.1.1 E.1.2.1 hd hv (kk p l e s m args below meth c dC dI ac sk A ad0 n0 Qs E ad H locs ls N)
theorem v_iload_n {j : Fin 4} {x : Int32} (hd : decode cc pc = .ok (.iload_n j, 1)) (hl : ab_lk L j = some (.int x)) (kk : Vd own nm cc nL ret R Q mc ms k n (pc + 1) L (.int x :: st) h) : Vd own nm cc nL ret R Q mc ms k n pc L (st) h := by
  intro p l e s m args below meth c dC dI ac sk A ad0 n0 Qs E ad H locs ls N
  exact lv_iload_n E.1.1 E.1.2.1 hd rfl (ab_lk_at hl N.2.2.2.2) (kk p l e s m args below meth c dC dI ac sk A ad0 n0 Qs E ad H locs ls N)
theorem v_iload {i : Nat} {x : Int32} (hd : decode cc pc = .ok (.iload i, 2)) (hl : ab_lk L i = some (.int x)) (kk : Vd own nm cc nL ret R Q mc ms k n (pc + 2) L (.int x :: st) h) : Vd own nm cc nL ret R Q mc ms k n pc L (st) h := by
  intro p l e s m args below meth c dC dI ac sk A ad0 n0 Qs E ad H locs ls N
  exact lv_iload E.1.1 E.1.2.1 hd (ab_lk_at hl N.2.2.2.2) (kk p l e s m args below meth c dC dI ac sk A ad0 n0 Qs E ad H locs ls N)
theorem v_lload_n {j : Fin 4} {x : Int64} (hd : decode cc pc = .ok (.lload_n j, 1)) (hl : ab_lk L j = some (.long x)) (kk : Vd own nm cc nL ret R Q mc ms k n (pc + 1) L (.long x :: st) h) : Vd own nm cc nL ret R Q mc ms k n pc L (st) h := by
  intro p l e s m args below meth c dC dI ac sk A ad0 n0 Qs E ad H locs ls N
  exact lv_lload_n E.1.1 E.1.2.1 hd rfl (ab_lk_at hl N.2.2.2.2) (kk p l e s m args below meth c dC dI ac sk A ad0 n0 Qs E ad H locs ls N)
theorem v_lload {i : Nat} {x : Int64} (hd : decode cc pc = .ok (.lload i, 2)) (hl : ab_lk L i = some (.long x)) (kk : Vd own nm cc nL ret R Q mc ms k n (pc + 2) L (.long x :: st) h) : Vd own nm cc nL ret R Q mc ms k n pc L (st) h := by
  intro p l e s m args below meth c dC dI ac sk A ad0 n0 Qs E ad H locs ls N
  exact lv_lload E.1.1 E.1.2.1 hd (ab_lk_at hl N.2.2.2.2) (kk p l e s m args below meth c dC dI ac sk A ad0 n0 Qs E ad H locs ls N)
theorem v_aload_n {j : Fin 4} {x : Nat} (hd : decode cc pc = .ok (.aload_n j, 1)) (hl : ab_lk L j = some (.ref x)) (kk : Vd own nm cc nL ret R Q mc ms k n (pc + 1) L (.ref x :: st) h) : Vd own nm cc nL ret R Q mc ms k n pc L (st) h := by
  intro p l e s m args below meth c dC dI ac sk A ad0 n0 Qs E ad H locs ls N
  exact lv_aload_n E.1.1 E.1.2.1 hd rfl (ab_lk_at hl N.2.2.2.2) (kk p l e s m args below meth c dC dI ac sk A ad0 n0 Qs E ad H locs ls N)
theorem v_aload {i : Nat} {x : Nat} (hd : decode cc pc = .ok (.aload i, 2)) (hl : ab_lk L i = some (.ref x)) (kk : Vd own nm cc nL ret R Q mc ms k n (pc + 2) L (.ref x :: st) h) : Vd own nm cc nL ret R Q mc ms k n pc L (st) h := by
  intro p l e s m args below meth c dC dI ac sk A ad0 n0 Qs E ad H locs ls N
  exact lv_aload E.1.1 E.1.2.1 hd (ab_lk_at hl N.2.2.2.2) (kk p l e s m args below meth c dC dI ac sk A ad0 n0 Qs E ad H locs ls N)
theorem v_sload_n {j : Fin 4} {x : Nat} (hd : decode cc pc = .ok (.aload_n j, 1)) (hl : ab_lk L j = some (.retAddr x)) (kk : Vd own nm cc nL ret R Q mc ms k n (pc + 1) L (.retAddr x :: st) h) : Vd own nm cc nL ret R Q mc ms k n pc L (st) h := by
  intro p l e s m args below meth c dC dI ac sk A ad0 n0 Qs E ad H locs ls N
  exact lv_aload_n E.1.1 E.1.2.1 hd rfl (ab_lk_at hl N.2.2.2.2) (kk p l e s m args below meth c dC dI ac sk A ad0 n0 Qs E ad H locs ls N)
theorem v_istore_n {j : Fin 4} {i : Nat} {x : Int32} {L2 : List (Nat × Value)} (hd : decode cc pc = .ok (.istore_n j, 1)) (hi : (j : Nat) = i) (hn : i < nL) (hl : ab_s1 L i (.int x) = L2) (kk : Vd own nm cc nL ret R Q mc ms k n (pc + 1) L2 st h) : Vd own nm cc nL ret R Q mc ms k n pc L (.int x :: st) h := by
  intro p l e s m args below meth c dC dI ac sk A ad0 n0 Qs E ad H locs ls N
  exact lv_istore_n E.1.1 E.1.2.1 hd hi N.2.2.2.2 hn (ab_s1_map (v := .int x) (ad := ad) (sk := sk)) (fun ls2 hl2 => kk p l e s m args below meth c dC dI ac sk A ad0 n0 Qs E ad H locs ls2 ⟨N.1, N.2.1, N.2.2.1, N.2.2.2.1, hl ▸ hl2⟩)
theorem v_istore {i : Nat} {x : Int32} {L2 : List (Nat × Value)} (hd : decode cc pc = .ok (.istore i, 2)) (hn : i < nL) (hl : ab_s1 L i (.int x) = L2) (kk : Vd own nm cc nL ret R Q mc ms k n (pc + 2) L2 st h) : Vd own nm cc nL ret R Q mc ms k n pc L (.int x :: st) h := by
  intro p l e s m args below meth c dC dI ac sk A ad0 n0 Qs E ad H locs ls N
  exact lv_istore E.1.1 E.1.2.1 hd N.2.2.2.2 hn (ab_s1_map (v := .int x) (ad := ad) (sk := sk)) (fun ls2 hl2 => kk p l e s m args below meth c dC dI ac sk A ad0 n0 Qs E ad H locs ls2 ⟨N.1, N.2.1, N.2.2.1, N.2.2.2.1, hl ▸ hl2⟩)
theorem v_lstore_n {j : Fin 4} {i : Nat} {x : Int64} {L2 : List (Nat × Value)} (hd : decode cc pc = .ok (.lstore_n j, 1)) (hi : (j : Nat) = i) (hn : i + 1 < nL) (hl : ab_s2 L i (.long x) = L2) (kk : Vd own nm cc nL ret R Q mc ms k n (pc + 1) L2 st h) : Vd own nm cc nL ret R Q mc ms k n pc L (.long x :: st) h := by
  intro p l e s m args below meth c dC dI ac sk A ad0 n0 Qs E ad H locs ls N
  exact lv_lstore_n E.1.1 E.1.2.1 hd hi N.2.2.2.2 hn (ab_s2_map (v := .long x) (ad := ad) (sk := sk)) (fun ls2 hl2 => kk p l e s m args below meth c dC dI ac sk A ad0 n0 Qs E ad H locs ls2 ⟨N.1, N.2.1, N.2.2.1, N.2.2.2.1, hl ▸ hl2⟩)
theorem v_lstore {i : Nat} {x : Int64} {L2 : List (Nat × Value)} (hd : decode cc pc = .ok (.lstore i, 2)) (hn : i + 1 < nL) (hl : ab_s2 L i (.long x) = L2) (kk : Vd own nm cc nL ret R Q mc ms k n (pc + 2) L2 st h) : Vd own nm cc nL ret R Q mc ms k n pc L (.long x :: st) h := by
  intro p l e s m args below meth c dC dI ac sk A ad0 n0 Qs E ad H locs ls N
  exact lv_lstore E.1.1 E.1.2.1 hd N.2.2.2.2 hn (ab_s2_map (v := .long x) (ad := ad) (sk := sk)) (fun ls2 hl2 => kk p l e s m args below meth c dC dI ac sk A ad0 n0 Qs E ad H locs ls2 ⟨N.1, N.2.1, N.2.2.1, N.2.2.2.1, hl ▸ hl2⟩)
theorem v_astore_n {j : Fin 4} {i : Nat} {x : Nat} {L2 : List (Nat × Value)} (hd : decode cc pc = .ok (.astore_n j, 1)) (hi : (j : Nat) = i) (hn : i < nL) (hl : ab_s1 L i (.ref x) = L2) (kk : Vd own nm cc nL ret R Q mc ms k n (pc + 1) L2 st h) : Vd own nm cc nL ret R Q mc ms k n pc L (.ref x :: st) h := by
  intro p l e s m args below meth c dC dI ac sk A ad0 n0 Qs E ad H locs ls N
  exact lv_astore_n E.1.1 E.1.2.1 hd hi N.2.2.2.2 hn (ab_s1_map (v := .ref x) (ad := ad) (sk := sk)) (fun ls2 hl2 => kk p l e s m args below meth c dC dI ac sk A ad0 n0 Qs E ad H locs ls2 ⟨N.1, N.2.1, N.2.2.1, N.2.2.2.1, hl ▸ hl2⟩)
theorem v_astore {i : Nat} {x : Nat} {L2 : List (Nat × Value)} (hd : decode cc pc = .ok (.astore i, 2)) (hn : i < nL) (hl : ab_s1 L i (.ref x) = L2) (kk : Vd own nm cc nL ret R Q mc ms k n (pc + 2) L2 st h) : Vd own nm cc nL ret R Q mc ms k n pc L (.ref x :: st) h := by
  intro p l e s m args below meth c dC dI ac sk A ad0 n0 Qs E ad H locs ls N
  exact lv_astore E.1.1 E.1.2.1 hd N.2.2.2.2 hn (ab_s1_map (v := .ref x) (ad := ad) (sk := sk)) (fun ls2 hl2 => kk p l e s m args below meth c dC dI ac sk A ad0 n0 Qs E ad H locs ls2 ⟨N.1, N.2.1, N.2.2.1, N.2.2.2.1, hl ▸ hl2⟩)
theorem v_iinc {i : Nat} {z : Int} {x v : Int32} {L2 : List (Nat × Value)} (hd : decode cc pc = .ok (.iinc i z, 3)) (hk : ab_lk L i = some (.int x)) (hv : x + Int32.ofInt z = v) (hn : i < nL) (hl : ab_s1 L i (.int v) = L2) (kk : Vd own nm cc nL ret R Q mc ms k n (pc + 3) L2 st h) : Vd own nm cc nL ret R Q mc ms k n pc L st h := by
  intro p l e s m args below meth c dC dI ac sk A ad0 n0 Qs E ad H locs ls N
  obtain ⟨j, hj⟩ := List.getElem?_of_mem (List.mem_map.mpr ⟨(i, .int x), ab_lk_in hk, rfl⟩ : (i, xv ad sk (.int x)) ∈ L.map (fun q => (q.1, xv ad sk q.2)))
  exact lv_iinc (k := j) E.1.1 E.1.2.1 hd N.2.2.2.2 hj hv hn (ab_s1_map (v := .int v) (ad := ad) (sk := sk)) (fun ls2 hl2 => kk p l e s m args below meth c dC dI ac sk A ad0 n0 Qs E ad H locs ls2 ⟨N.1, N.2.1, N.2.2.1, N.2.2.2.1, hl ▸ hl2⟩)
theorem v_iadd {x y : Int32} (hd : decode cc pc = .ok (.iadd, 1)) (kk : Vd own nm cc nL ret R Q mc ms k n (pc + 1) L (.int (x + y) :: st) h) : Vd own nm cc nL ret R Q mc ms k n pc L (.int y :: .int x :: st) h := by
  intro p l e s m args below meth c dC dI ac sk A ad0 n0 Qs E ad H locs ls N
  exact lv_iadd E.1.1 E.1.2.1 hd (kk p l e s m args below meth c dC dI ac sk A ad0 n0 Qs E ad H locs ls N)
theorem v_isub {x y : Int32} (hd : decode cc pc = .ok (.isub, 1)) (kk : Vd own nm cc nL ret R Q mc ms k n (pc + 1) L (.int (x - y) :: st) h) : Vd own nm cc nL ret R Q mc ms k n pc L (.int y :: .int x :: st) h := by
  intro p l e s m args below meth c dC dI ac sk A ad0 n0 Qs E ad H locs ls N
  exact lv_isub E.1.1 E.1.2.1 hd (kk p l e s m args below meth c dC dI ac sk A ad0 n0 Qs E ad H locs ls N)
theorem v_imul {x y : Int32} (hd : decode cc pc = .ok (.imul, 1)) (kk : Vd own nm cc nL ret R Q mc ms k n (pc + 1) L (.int (x * y) :: st) h) : Vd own nm cc nL ret R Q mc ms k n pc L (.int y :: .int x :: st) h := by
  intro p l e s m args below meth c dC dI ac sk A ad0 n0 Qs E ad H locs ls N
  exact lv_imul E.1.1 E.1.2.1 hd (kk p l e s m args below meth c dC dI ac sk A ad0 n0 Qs E ad H locs ls N)
theorem v_iand {x y : Int32} (hd : decode cc pc = .ok (.iand, 1)) (kk : Vd own nm cc nL ret R Q mc ms k n (pc + 1) L (.int (x &&& y) :: st) h) : Vd own nm cc nL ret R Q mc ms k n pc L (.int y :: .int x :: st) h := by
  intro p l e s m args below meth c dC dI ac sk A ad0 n0 Qs E ad H locs ls N
  exact lv_iand E.1.1 E.1.2.1 hd (kk p l e s m args below meth c dC dI ac sk A ad0 n0 Qs E ad H locs ls N)
theorem v_ior {x y : Int32} (hd : decode cc pc = .ok (.ior, 1)) (kk : Vd own nm cc nL ret R Q mc ms k n (pc + 1) L (.int (x ||| y) :: st) h) : Vd own nm cc nL ret R Q mc ms k n pc L (.int y :: .int x :: st) h := by
  intro p l e s m args below meth c dC dI ac sk A ad0 n0 Qs E ad H locs ls N
  exact lv_ior E.1.1 E.1.2.1 hd (kk p l e s m args below meth c dC dI ac sk A ad0 n0 Qs E ad H locs ls N)
theorem v_ixor {x y : Int32} (hd : decode cc pc = .ok (.ixor, 1)) (kk : Vd own nm cc nL ret R Q mc ms k n (pc + 1) L (.int (x ^^^ y) :: st) h) : Vd own nm cc nL ret R Q mc ms k n pc L (.int y :: .int x :: st) h := by
  intro p l e s m args below meth c dC dI ac sk A ad0 n0 Qs E ad H locs ls N
  exact lv_ixor E.1.1 E.1.2.1 hd (kk p l e s m args below meth c dC dI ac sk A ad0 n0 Qs E ad H locs ls N)
theorem v_ishl {x y : Int32} (hd : decode cc pc = .ok (.ishl, 1)) (kk : Vd own nm cc nL ret R Q mc ms k n (pc + 1) L (.int (x <<< (y &&& 31)) :: st) h) : Vd own nm cc nL ret R Q mc ms k n pc L (.int y :: .int x :: st) h := by
  intro p l e s m args below meth c dC dI ac sk A ad0 n0 Qs E ad H locs ls N
  exact lv_ishl E.1.1 E.1.2.1 hd (kk p l e s m args below meth c dC dI ac sk A ad0 n0 Qs E ad H locs ls N)
theorem v_ishr {x y : Int32} (hd : decode cc pc = .ok (.ishr, 1)) (kk : Vd own nm cc nL ret R Q mc ms k n (pc + 1) L (.int (x >>> (y &&& 31)) :: st) h) : Vd own nm cc nL ret R Q mc ms k n pc L (.int y :: .int x :: st) h := by
  intro p l e s m args below meth c dC dI ac sk A ad0 n0 Qs E ad H locs ls N
  exact lv_ishr E.1.1 E.1.2.1 hd (kk p l e s m args below meth c dC dI ac sk A ad0 n0 Qs E ad H locs ls N)
theorem v_idiv {x y : Int32} (hd : decode cc pc = .ok (.idiv, 1)) (hne : ¬ y = 0) (kk : Vd own nm cc nL ret R Q mc ms k n (pc + 1) L (.int (x / y) :: st) h) : Vd own nm cc nL ret R Q mc ms k n pc L (.int y :: .int x :: st) h := by
  intro p l e s m args below meth c dC dI ac sk A ad0 n0 Qs E ad H locs ls N
  exact lv_idiv E.1.1 E.1.2.1 hd hne (kk p l e s m args below meth c dC dI ac sk A ad0 n0 Qs E ad H locs ls N)
theorem v_irem {x y : Int32} (hd : decode cc pc = .ok (.irem, 1)) (hne : ¬ y = 0) (kk : Vd own nm cc nL ret R Q mc ms k n (pc + 1) L (.int (x - x / y * y) :: st) h) : Vd own nm cc nL ret R Q mc ms k n pc L (.int y :: .int x :: st) h := by
  intro p l e s m args below meth c dC dI ac sk A ad0 n0 Qs E ad H locs ls N
  exact lv_irem E.1.1 E.1.2.1 hd hne (kk p l e s m args below meth c dC dI ac sk A ad0 n0 Qs E ad H locs ls N)
theorem v_ladd {x y : Int64} (hd : decode cc pc = .ok (.ladd, 1)) (kk : Vd own nm cc nL ret R Q mc ms k n (pc + 1) L (.long (x + y) :: st) h) : Vd own nm cc nL ret R Q mc ms k n pc L (.long y :: .long x :: st) h := by
  intro p l e s m args below meth c dC dI ac sk A ad0 n0 Qs E ad H locs ls N
  exact lv_ladd E.1.1 E.1.2.1 hd (kk p l e s m args below meth c dC dI ac sk A ad0 n0 Qs E ad H locs ls N)
theorem v_lsub {x y : Int64} (hd : decode cc pc = .ok (.lsub, 1)) (kk : Vd own nm cc nL ret R Q mc ms k n (pc + 1) L (.long (x - y) :: st) h) : Vd own nm cc nL ret R Q mc ms k n pc L (.long y :: .long x :: st) h := by
  intro p l e s m args below meth c dC dI ac sk A ad0 n0 Qs E ad H locs ls N
  exact lv_lsub E.1.1 E.1.2.1 hd (kk p l e s m args below meth c dC dI ac sk A ad0 n0 Qs E ad H locs ls N)
theorem v_lmul {x y : Int64} (hd : decode cc pc = .ok (.lmul, 1)) (kk : Vd own nm cc nL ret R Q mc ms k n (pc + 1) L (.long (x * y) :: st) h) : Vd own nm cc nL ret R Q mc ms k n pc L (.long y :: .long x :: st) h := by
  intro p l e s m args below meth c dC dI ac sk A ad0 n0 Qs E ad H locs ls N
  exact lv_lmul E.1.1 E.1.2.1 hd (kk p l e s m args below meth c dC dI ac sk A ad0 n0 Qs E ad H locs ls N)
theorem v_ldiv {x y : Int64} (hd : decode cc pc = .ok (.ldiv, 1)) (hne : ¬ y = 0) (kk : Vd own nm cc nL ret R Q mc ms k n (pc + 1) L (.long (x / y) :: st) h) : Vd own nm cc nL ret R Q mc ms k n pc L (.long y :: .long x :: st) h := by
  intro p l e s m args below meth c dC dI ac sk A ad0 n0 Qs E ad H locs ls N
  exact lv_ldiv E.1.1 E.1.2.1 hd hne (kk p l e s m args below meth c dC dI ac sk A ad0 n0 Qs E ad H locs ls N)
theorem v_lrem {x y : Int64} (hd : decode cc pc = .ok (.lrem, 1)) (hne : ¬ y = 0) (kk : Vd own nm cc nL ret R Q mc ms k n (pc + 1) L (.long (x - x / y * y) :: st) h) : Vd own nm cc nL ret R Q mc ms k n pc L (.long y :: .long x :: st) h := by
  intro p l e s m args below meth c dC dI ac sk A ad0 n0 Qs E ad H locs ls N
  exact lv_lrem E.1.1 E.1.2.1 hd hne (kk p l e s m args below meth c dC dI ac sk A ad0 n0 Qs E ad H locs ls N)
theorem v_lneg {x : Int64} (hd : decode cc pc = .ok (.lneg, 1)) (kk : Vd own nm cc nL ret R Q mc ms k n (pc + 1) L (.long (-x) :: st) h) : Vd own nm cc nL ret R Q mc ms k n pc L (.long x :: st) h := by
  intro p l e s m args below meth c dC dI ac sk A ad0 n0 Qs E ad H locs ls N
  exact lv_lneg E.1.1 E.1.2.1 hd (kk p l e s m args below meth c dC dI ac sk A ad0 n0 Qs E ad H locs ls N)
theorem v_ineg {x : Int32} (hd : decode cc pc = .ok (.ineg, 1)) (kk : Vd own nm cc nL ret R Q mc ms k n (pc + 1) L (.int (-x) :: st) h) : Vd own nm cc nL ret R Q mc ms k n pc L (.int x :: st) h := by
  intro p l e s m args below meth c dC dI ac sk A ad0 n0 Qs E ad H locs ls N
  exact lv_ineg E.1.1 E.1.2.1 hd (kk p l e s m args below meth c dC dI ac sk A ad0 n0 Qs E ad H locs ls N)
theorem v_lcmp {x y : Int64} (hd : decode cc pc = .ok (.lcmp, 1)) (kk : Vd own nm cc nL ret R Q mc ms k n (pc + 1) L (.int (lg_cmp x y) :: st) h) : Vd own nm cc nL ret R Q mc ms k n pc L (.long y :: .long x :: st) h := by
  intro p l e s m args below meth c dC dI ac sk A ad0 n0 Qs E ad H locs ls N
  exact W.lcmp E.1.1 E.1.2.1 hd (kk p l e s m args below meth c dC dI ac sk A ad0 n0 Qs E ad H locs ls N)
theorem v_i2l {x : Int32} (hd : decode cc pc = .ok (.i2l, 1)) (kk : Vd own nm cc nL ret R Q mc ms k n (pc + 1) L (.long x.toInt64 :: st) h) : Vd own nm cc nL ret R Q mc ms k n pc L (.int x :: st) h := by
  intro p l e s m args below meth c dC dI ac sk A ad0 n0 Qs E ad H locs ls N
  exact lv_i2l E.1.1 E.1.2.1 hd rfl (kk p l e s m args below meth c dC dI ac sk A ad0 n0 Qs E ad H locs ls N)
theorem v_i2b {x : Int32} (hd : decode cc pc = .ok (.i2b, 1)) (kk : Vd own nm cc nL ret R Q mc ms k n (pc + 1) L (.int x.toInt8.toInt32 :: st) h) : Vd own nm cc nL ret R Q mc ms k n pc L (.int x :: st) h := by
  intro p l e s m args below meth c dC dI ac sk A ad0 n0 Qs E ad H locs ls N
  exact lv_i2b E.1.1 E.1.2.1 hd rfl (kk p l e s m args below meth c dC dI ac sk A ad0 n0 Qs E ad H locs ls N)
theorem v_i2s {x : Int32} (hd : decode cc pc = .ok (.i2s, 1)) (kk : Vd own nm cc nL ret R Q mc ms k n (pc + 1) L (.int x.toInt16.toInt32 :: st) h) : Vd own nm cc nL ret R Q mc ms k n pc L (.int x :: st) h := by
  intro p l e s m args below meth c dC dI ac sk A ad0 n0 Qs E ad H locs ls N
  exact lv_i2s E.1.1 E.1.2.1 hd rfl (kk p l e s m args below meth c dC dI ac sk A ad0 n0 Qs E ad H locs ls N)
theorem v_iushr {x y : Int32} (hd : decode cc pc = .ok (.iushr, 1)) (kk : Vd own nm cc nL ret R Q mc ms k n (pc + 1) L (.int (x.toUInt32 >>> (y.toUInt32 &&& Int32.toUInt32 31)).toInt32 :: st) h) : Vd own nm cc nL ret R Q mc ms k n pc L (.int y :: .int x :: st) h := by
  intro p l e s m args below meth c dC dI ac sk A ad0 n0 Qs E ad H locs ls N
  exact lv_iushr E.1.1 E.1.2.1 hd rfl (kk p l e s m args below meth c dC dI ac sk A ad0 n0 Qs E ad H locs ls N)
theorem v_dup {v : Value} (hd : decode cc pc = .ok (.dup, 1)) (hc : v.category = 1) (kk : Vd own nm cc nL ret R Q mc ms k n (pc + 1) L (v :: v :: st) h) : Vd own nm cc nL ret R Q mc ms k n pc L (v :: st) h := by
  intro p l e s m args below meth c dC dI ac sk A ad0 n0 Qs E ad H locs ls N
  exact lv_dup E.1.1 E.1.2.1 hd ((xv_cat ad sk v).trans hc) (kk p l e s m args below meth c dC dI ac sk A ad0 n0 Qs E ad H locs ls N)
theorem v_pop {v : Value} (hd : decode cc pc = .ok (.pop, 1)) (hc : v.category = 1) (kk : Vd own nm cc nL ret R Q mc ms k n (pc + 1) L (st) h) : Vd own nm cc nL ret R Q mc ms k n pc L (v :: st) h := by
  intro p l e s m args below meth c dC dI ac sk A ad0 n0 Qs E ad H locs ls N
  exact lv_pop E.1.1 E.1.2.1 hd ((xv_cat ad sk v).trans hc) (kk p l e s m args below meth c dC dI ac sk A ad0 n0 Qs E ad H locs ls N)
theorem v_dup2 {v w : Value} (hd : decode cc pc = .ok (.dup2, 1)) (hc : v.category = 1) (hc2 : w.category = 1) (kk : Vd own nm cc nL ret R Q mc ms k n (pc + 1) L (v :: w :: v :: w :: st) h) : Vd own nm cc nL ret R Q mc ms k n pc L (v :: w :: st) h := by
  intro p l e s m args below meth c dC dI ac sk A ad0 n0 Qs E ad H locs ls N
  exact lv_dup2_11 E.1.1 E.1.2.1 hd ((xv_cat ad sk v).trans hc) ((xv_cat ad sk w).trans hc2) (kk p l e s m args below meth c dC dI ac sk A ad0 n0 Qs E ad H locs ls N)
theorem v_if_eq {x : Int32} {off : Int} {tgt : Nat} (hd : decode cc pc = .ok (.ifCond .eq off, 3)) (ht : (pc : Int) + off = (tgt : Int)) (kt : x = 0 → Vd own nm cc nL ret R Q mc ms k n tgt L st h) (kf : ¬ x = 0 → Vd own nm cc nL ret R Q mc ms k n (pc + 3) L st h) : Vd own nm cc nL ret R Q mc ms k n pc L (.int x :: st) h := by
  intro p l e s m args below meth c dC dI ac sk A ad0 n0 Qs E ad H locs ls N
  exact lv_if_eq E.1.1 E.1.2.1 hd ht (fun q => kt q p l e s m args below meth c dC dI ac sk A ad0 n0 Qs E ad H locs ls N) (fun q => kf q p l e s m args below meth c dC dI ac sk A ad0 n0 Qs E ad H locs ls N)
theorem v_icmp_eq {x y : Int32} {off : Int} {tgt : Nat} (hd : decode cc pc = .ok (.if_icmp .eq off, 3)) (ht : (pc : Int) + off = (tgt : Int)) (kt : x = y → Vd own nm cc nL ret R Q mc ms k n tgt L st h) (kf : ¬ x = y → Vd own nm cc nL ret R Q mc ms k n (pc + 3) L st h) : Vd own nm cc nL ret R Q mc ms k n pc L (.int y :: .int x :: st) h := by
  intro p l e s m args below meth c dC dI ac sk A ad0 n0 Qs E ad H locs ls N
  exact lv_icmp_eq E.1.1 E.1.2.1 hd ht (fun q => kt q p l e s m args below meth c dC dI ac sk A ad0 n0 Qs E ad H locs ls N) (fun q => kf q p l e s m args below meth c dC dI ac sk A ad0 n0 Qs E ad H locs ls N)
theorem v_if_ne {x : Int32} {off : Int} {tgt : Nat} (hd : decode cc pc = .ok (.ifCond .ne off, 3)) (ht : (pc : Int) + off = (tgt : Int)) (kt : ¬ x = 0 → Vd own nm cc nL ret R Q mc ms k n tgt L st h) (kf : x = 0 → Vd own nm cc nL ret R Q mc ms k n (pc + 3) L st h) : Vd own nm cc nL ret R Q mc ms k n pc L (.int x :: st) h := by
  intro p l e s m args below meth c dC dI ac sk A ad0 n0 Qs E ad H locs ls N
  exact lv_if_ne E.1.1 E.1.2.1 hd ht (fun q => kt q p l e s m args below meth c dC dI ac sk A ad0 n0 Qs E ad H locs ls N) (fun q => kf q p l e s m args below meth c dC dI ac sk A ad0 n0 Qs E ad H locs ls N)
theorem v_icmp_ne {x y : Int32} {off : Int} {tgt : Nat} (hd : decode cc pc = .ok (.if_icmp .ne off, 3)) (ht : (pc : Int) + off = (tgt : Int)) (kt : ¬ x = y → Vd own nm cc nL ret R Q mc ms k n tgt L st h) (kf : x = y → Vd own nm cc nL ret R Q mc ms k n (pc + 3) L st h) : Vd own nm cc nL ret R Q mc ms k n pc L (.int y :: .int x :: st) h := by
  intro p l e s m args below meth c dC dI ac sk A ad0 n0 Qs E ad H locs ls N
  exact lv_icmp_ne E.1.1 E.1.2.1 hd ht (fun q => kt q p l e s m args below meth c dC dI ac sk A ad0 n0 Qs E ad H locs ls N) (fun q => kf q p l e s m args below meth c dC dI ac sk A ad0 n0 Qs E ad H locs ls N)
theorem v_if_lt {x : Int32} {off : Int} {tgt : Nat} (hd : decode cc pc = .ok (.ifCond .lt off, 3)) (ht : (pc : Int) + off = (tgt : Int)) (kt : x < 0 → Vd own nm cc nL ret R Q mc ms k n tgt L st h) (kf : ¬ x < 0 → Vd own nm cc nL ret R Q mc ms k n (pc + 3) L st h) : Vd own nm cc nL ret R Q mc ms k n pc L (.int x :: st) h := by
  intro p l e s m args below meth c dC dI ac sk A ad0 n0 Qs E ad H locs ls N
  exact lv_if_lt E.1.1 E.1.2.1 hd ht (fun q => kt q p l e s m args below meth c dC dI ac sk A ad0 n0 Qs E ad H locs ls N) (fun q => kf q p l e s m args below meth c dC dI ac sk A ad0 n0 Qs E ad H locs ls N)
theorem v_icmp_lt {x y : Int32} {off : Int} {tgt : Nat} (hd : decode cc pc = .ok (.if_icmp .lt off, 3)) (ht : (pc : Int) + off = (tgt : Int)) (kt : x < y → Vd own nm cc nL ret R Q mc ms k n tgt L st h) (kf : ¬ x < y → Vd own nm cc nL ret R Q mc ms k n (pc + 3) L st h) : Vd own nm cc nL ret R Q mc ms k n pc L (.int y :: .int x :: st) h := by
  intro p l e s m args below meth c dC dI ac sk A ad0 n0 Qs E ad H locs ls N
  exact lv_icmp_lt E.1.1 E.1.2.1 hd ht (fun q => kt q p l e s m args below meth c dC dI ac sk A ad0 n0 Qs E ad H locs ls N) (fun q => kf q p l e s m args below meth c dC dI ac sk A ad0 n0 Qs E ad H locs ls N)
theorem v_if_ge {x : Int32} {off : Int} {tgt : Nat} (hd : decode cc pc = .ok (.ifCond .ge off, 3)) (ht : (pc : Int) + off = (tgt : Int)) (kt : 0 ≤ x → Vd own nm cc nL ret R Q mc ms k n tgt L st h) (kf : ¬ 0 ≤ x → Vd own nm cc nL ret R Q mc ms k n (pc + 3) L st h) : Vd own nm cc nL ret R Q mc ms k n pc L (.int x :: st) h := by
  intro p l e s m args below meth c dC dI ac sk A ad0 n0 Qs E ad H locs ls N
  exact lv_if_ge E.1.1 E.1.2.1 hd ht (fun q => kt q p l e s m args below meth c dC dI ac sk A ad0 n0 Qs E ad H locs ls N) (fun q => kf q p l e s m args below meth c dC dI ac sk A ad0 n0 Qs E ad H locs ls N)
theorem v_icmp_ge {x y : Int32} {off : Int} {tgt : Nat} (hd : decode cc pc = .ok (.if_icmp .ge off, 3)) (ht : (pc : Int) + off = (tgt : Int)) (kt : y ≤ x → Vd own nm cc nL ret R Q mc ms k n tgt L st h) (kf : ¬ y ≤ x → Vd own nm cc nL ret R Q mc ms k n (pc + 3) L st h) : Vd own nm cc nL ret R Q mc ms k n pc L (.int y :: .int x :: st) h := by
  intro p l e s m args below meth c dC dI ac sk A ad0 n0 Qs E ad H locs ls N
  exact lv_icmp_ge E.1.1 E.1.2.1 hd ht (fun q => kt q p l e s m args below meth c dC dI ac sk A ad0 n0 Qs E ad H locs ls N) (fun q => kf q p l e s m args below meth c dC dI ac sk A ad0 n0 Qs E ad H locs ls N)
theorem v_if_gt {x : Int32} {off : Int} {tgt : Nat} (hd : decode cc pc = .ok (.ifCond .gt off, 3)) (ht : (pc : Int) + off = (tgt : Int)) (kt : 0 < x → Vd own nm cc nL ret R Q mc ms k n tgt L st h) (kf : ¬ 0 < x → Vd own nm cc nL ret R Q mc ms k n (pc + 3) L st h) : Vd own nm cc nL ret R Q mc ms k n pc L (.int x :: st) h := by
  intro p l e s m args below meth c dC dI ac sk A ad0 n0 Qs E ad H locs ls N
  exact lv_if_gt E.1.1 E.1.2.1 hd ht (fun q => kt q p l e s m args below meth c dC dI ac sk A ad0 n0 Qs E ad H locs ls N) (fun q => kf q p l e s m args below meth c dC dI ac sk A ad0 n0 Qs E ad H locs ls N)
theorem v_icmp_gt {x y : Int32} {off : Int} {tgt : Nat} (hd : decode cc pc = .ok (.if_icmp .gt off, 3)) (ht : (pc : Int) + off = (tgt : Int)) (kt : y < x → Vd own nm cc nL ret R Q mc ms k n tgt L st h) (kf : ¬ y < x → Vd own nm cc nL ret R Q mc ms k n (pc + 3) L st h) : Vd own nm cc nL ret R Q mc ms k n pc L (.int y :: .int x :: st) h := by
  intro p l e s m args below meth c dC dI ac sk A ad0 n0 Qs E ad H locs ls N
  exact lv_icmp_gt E.1.1 E.1.2.1 hd ht (fun q => kt q p l e s m args below meth c dC dI ac sk A ad0 n0 Qs E ad H locs ls N) (fun q => kf q p l e s m args below meth c dC dI ac sk A ad0 n0 Qs E ad H locs ls N)
theorem v_if_le {x : Int32} {off : Int} {tgt : Nat} (hd : decode cc pc = .ok (.ifCond .le off, 3)) (ht : (pc : Int) + off = (tgt : Int)) (kt : x ≤ 0 → Vd own nm cc nL ret R Q mc ms k n tgt L st h) (kf : ¬ x ≤ 0 → Vd own nm cc nL ret R Q mc ms k n (pc + 3) L st h) : Vd own nm cc nL ret R Q mc ms k n pc L (.int x :: st) h := by
  intro p l e s m args below meth c dC dI ac sk A ad0 n0 Qs E ad H locs ls N
  exact lv_if_le E.1.1 E.1.2.1 hd ht (fun q => kt q p l e s m args below meth c dC dI ac sk A ad0 n0 Qs E ad H locs ls N) (fun q => kf q p l e s m args below meth c dC dI ac sk A ad0 n0 Qs E ad H locs ls N)
theorem v_icmp_le {x y : Int32} {off : Int} {tgt : Nat} (hd : decode cc pc = .ok (.if_icmp .le off, 3)) (ht : (pc : Int) + off = (tgt : Int)) (kt : x ≤ y → Vd own nm cc nL ret R Q mc ms k n tgt L st h) (kf : ¬ x ≤ y → Vd own nm cc nL ret R Q mc ms k n (pc + 3) L st h) : Vd own nm cc nL ret R Q mc ms k n pc L (.int y :: .int x :: st) h := by
  intro p l e s m args below meth c dC dI ac sk A ad0 n0 Qs E ad H locs ls N
  exact lv_icmp_le E.1.1 E.1.2.1 hd ht (fun q => kt q p l e s m args below meth c dC dI ac sk A ad0 n0 Qs E ad H locs ls N) (fun q => kf q p l e s m args below meth c dC dI ac sk A ad0 n0 Qs E ad H locs ls N)
theorem v_goto {off : Int} {tgt : Nat} (hd : decode cc pc = .ok (.goto off, 3)) (ht : (pc : Int) + off = (tgt : Int)) (kk : Vd own nm cc nL ret R Q mc ms k n tgt L st h) : Vd own nm cc nL ret R Q mc ms k n pc L st h := by
  intro p l e s m args below meth c dC dI ac sk A ad0 n0 Qs E ad H locs ls N
  exact lv_goto E.1.1 E.1.2.1 hd ht (kk p l e s m args below meth c dC dI ac sk A ad0 n0 Qs E ad H locs ls N)
theorem v_tOut {dflt lo hi : Int} {offs : Array Int} {len : Nat} {x : Int32} {tgt : Nat} (hd : decode cc pc = .ok (.tableswitch dflt lo hi offs, len)) (hx : x.toInt < lo ∨ hi < x.toInt) (ht : (pc : Int) + dflt = (tgt : Int)) (kk : Vd own nm cc nL ret R Q mc ms k n tgt L st h) : Vd own nm cc nL ret R Q mc ms k n pc L (.int x :: st) h := by
  intro p l e s m args below meth c dC dI ac sk A ad0 n0 Qs E ad H locs ls N
  exact lv_tableOut E.1.1 E.1.2.1 hd hx ht (kk p l e s m args below meth c dC dI ac sk A ad0 n0 Qs E ad H locs ls N)
theorem v_tIn {dflt lo hi : Int} {offs : Array Int} {len : Nat} {x : Int32} (j : Int32) {off : Int} {tgt : Nat} (hd : decode cc pc = .ok (.tableswitch dflt lo hi offs, len)) (hx : x = j) (h1 : ¬ j.toInt < lo) (h2 : ¬ hi < j.toInt) (ho : offs[(j.toInt - lo).toNat]? = some off) (ht : (pc : Int) + off = (tgt : Int)) (kk : Vd own nm cc nL ret R Q mc ms k n tgt L st h) : Vd own nm cc nL ret R Q mc ms k n pc L (.int x :: st) h := by
  subst hx
  intro p l e s m args below meth c dC dI ac sk A ad0 n0 Qs E ad H locs ls N
  exact lv_tableIn E.1.1 E.1.2.1 hd h1 h2 ho ht (kk p l e s m args below meth c dC dI ac sk A ad0 n0 Qs E ad H locs ls N)
theorem v_look {dflt : Int} {ps : Array (Int × Int)} {len : Nat} {x : Int32} {off : Int} {tgt : Nat} (hd : decode cc pc = .ok (.lookupswitch dflt ps, len)) (hp : (ps.toList.zip (ps.toList.drop 1)).all (fun (a, next) => a.1 < next.1) = true) (ho : Op.lookupswitch.offset ps.toList dflt x.toInt = off) (ht : (pc : Int) + off = (tgt : Int)) (kk : Vd own nm cc nL ret R Q mc ms k n tgt L st h) : Vd own nm cc nL ret R Q mc ms k n pc L (.int x :: st) h := by
  intro p l e s m args below meth c dC dI ac sk A ad0 n0 Qs E ad H locs ls N
  exact lv_lookup E.1.1 E.1.2.1 hd hp ho ht (kk p l e s m args below meth c dC dI ac sk A ad0 n0 Qs E ad H locs ls N)
theorem v_ldc {i : Nat} {v : Int32} (hd : decode cc pc = .ok (.ldc i, 2)) (hw : Cond.constant own i v ∈ gw) (kk : Vd own nm cc nL ret R Q mc ms k n (pc + 2) L (.int v :: st) h) : Vd own nm cc nL ret R Q mc ms k n pc L (st) h := by
  intro p l e s m args below meth c dC dI ac sk A ad0 n0 Qs E ad H locs ls N
  exact lv_ldc E.1.1 E.1.2.1 E.1.2.2.2.2.1 (E.1.2.2.2.2.2.1 _ hw) hd (kk p l e s m args below meth c dC dI ac sk A ad0 n0 Qs E ad H locs ls N)
theorem v_ldc2 {i : Nat} {v : Int64} (hd : decode cc pc = .ok (.ldc2_w i, 3)) (hw : Cond.constantLong own i v ∈ gw) (kk : Vd own nm cc nL ret R Q mc ms k n (pc + 3) L (.long v :: st) h) : Vd own nm cc nL ret R Q mc ms k n pc L (st) h := by
  intro p l e s m args below meth c dC dI ac sk A ad0 n0 Qs E ad H locs ls N
  exact lv_ldc2 E.1.1 E.1.2.1 E.1.2.2.2.2.1 (E.1.2.2.2.2.2.1 _ hw) hd (kk p l e s m args below meth c dC dI ac sk A ad0 n0 Qs E ad H locs ls N)
theorem v_topi {x : Int32} (kk : ∀ y : Int32, y = x → Vd own nm cc nL ret R Q mc ms k n pc L (.int y :: st) h) : Vd own nm cc nL ret R Q mc ms k n pc L (.int x :: st) h := kk x rfl
theorem v_topl {x : Int64} (kk : ∀ y : Int64, y = x → Vd own nm cc nL ret R Q mc ms k n pc L (.long y :: st) h) : Vd own nm cc nL ret R Q mc ms k n pc L (.long x :: st) h := kk x rfl
theorem v_loc {L2 : List (Nat × Value)} (ks : List Nat) (hl : lv_pick L ks = L2) (kk : Vd own nm cc nL ret R Q mc ms k n pc L2 st h) : Vd own nm cc nL ret R Q mc ms k n pc L st h := by
  intro p l e s m args below meth c dC dI ac sk A ad0 n0 Qs E ad H locs ls N
  refine kk p l e s m args below meth c dC dI ac sk A ad0 n0 Qs E ad H locs ls (N.loc (fun q hq => ?_))
  rw [← hl] at hq
  obtain ⟨i, -, hi⟩ := List.mem_filterMap.mp hq
  exact List.mem_of_getElem? hi
theorem v_heap {h2 : ab_H} (he : h = h2) (kk : Vd own nm cc nL ret R Q mc ms k n pc L st h2) : Vd own nm cc nL ret R Q mc ms k n pc L st h := he ▸ kk
end VROWS
end
section

section VHEAP
variable {own nm : String} {cc : ByteArray} {nL : Nat} {ret : Option FieldType} {R : Room} {Q : Option Value → ab_H → Prop} {mc ms k n pc : Nat} {L : List (Nat × Value)} {st : List Value} {h : ab_H}
/-- a field of a class, as a link of a class names it -/
def FL (own : String) (idx ci k : Nat) (ty : FieldType) (fin : Bool) : Prop := ∃ (C : String) (T : u_T) (N : Nat) (tyf : Nat → FieldType), vwCl[ci]? = some (C, T, N) ∧ (∀ w ∈ u_ws C T N, w ∈ gw) ∧ k < N ∧ Cond.fieldLink own idx C (T k).2.1 (T k).2.2.1 ∈ gw ∧ (T k).1 = C ∧ (T k).2.2.2 = fin ∧ parseFieldDescriptor (T k).2.2.1 = some ty ∧ (∀ k, k < N → parseFieldDescriptor (T k).2.2.1 = some (tyf k)) ∧ (∀ a, a < N → ∀ b, b < N → a ≠ b → (T a).2.1 ≠ (T b).2.1)
theorem Nw.upd {dC : Nat → ClassId} {dI : Nat → Nat → Nat} {ac : Nat → ClassId} {sk : Nat → Nat} {A : Nat → Prop} {ad0 : Nat → Nat} {n0 : Nat} {s : State} {nL : Nat} {L : List (Nat × Value)} {h : ab_H} {ad : Nat → Nat} {H H1 : Heap} {locs locs1 : List Loc} {ls : Array Slot} {b : Nat} {c : ab_C} (N : Nw dC dI ac sk A ad0 n0 s nL L h ad H locs ls) (hP : va_P (dC, dI) vwCl ((xw ad sk ac h).set b (ad b, xc ad sk ac c)) H1) (hD : va_D A ((xw ad sk ac h).set b (ad b, xc ad sk ac c))) (hS : va_S A s.heap H1 locs1) : Nw dC dI ac sk A ad0 n0 s nL L (h.set b c) ad H1 locs1 ls := by
  rw [xw_set] at hP hD
  exact ⟨⟨by rw [List.length_set]; exact N.1.1, N.1.2.1, by rw [List.length_set]; exact N.1.2.2⟩, hP, hD, hS, N.2.2.2.2⟩
theorem v_get {idx ci j b : Nat} {ty : FieldType} {fin : Bool} {fs : List Value} {v : Value} (hd : decode cc pc = .ok (.getfield idx, 3)) (f : FL own idx ci j ty fin) (hh : h[b]? = some (aO ci fs)) (hv : fs[j]? = some v) (kk : Vd own nm cc nL ret R Q mc ms k n (pc + 3) L (v :: st) h) : Vd own nm cc nL ret R Q mc ms k n pc L (.ref b :: st) h := by
  intro p l e s m args below meth c dC dI ac sk A ad0 n0 Qs E ad H locs ls N
  obtain ⟨C, T, NN, tyf, f1, f2, f3, f4, f5, f6, f7, f8, f9⟩ := f
  exact va_get (ref := C) E.1.1 E.1.2.1 E.1.2.2.2.2.2.1 f2 E.1.2.2.2.2.1 E.2.2.2.1 N.2.1 b (xw_of hh) f1 j f3 (E.1.2.2.2.2.2.1 _ f4) (by rw [f5]; exact fun _ h9 => h9) (by rw [List.getElem?_map, hv]; rfl) hd (kk p l e s m args below meth c dC dI ac sk A ad0 n0 Qs E ad H locs ls N)
theorem v_put {idx ci j b : Nat} {ty : FieldType} {fs : List Value} {v : Value} (hd : decode cc pc = .ok (.putfield idx, 3)) (f : FL own idx ci j ty false) (hh : h[b]? = some (aO ci fs)) (hn : ∀ ad sk, narrow ty (xv ad sk v) = xv ad sk v) (hf : ∀ ad sk, fits ty (xv ad sk v) = true) (hl : j < fs.length) (kk : Vd own nm cc nL ret R Q mc ms k n (pc + 3) L st (h.set b (aO ci (fs.set j v)))) : Vd own nm cc nL ret R Q mc ms k n pc L (v :: .ref b :: st) h := by
  intro p l e s m args below meth c dC dI ac sk A ad0 n0 Qs E ad H locs ls N
  obtain ⟨C, T, NN, tyf, f1, f2, f3, f4, f5, f6, f7, f8, f9⟩ := f
  refine va_put (ref := C) E.1.1 E.1.2.1 E.1.2.2.2.2.2.1 f2 tyf f8 f9 E.1.2.2.2.2.1 E.2.2.2.1 N.2.1 N.2.2.1 N.2.2.2.1 b (xw_of hh) f1 j f3 (E.1.2.2.2.2.2.1 _ f4) (by rw [f5]; exact fun _ h9 => h9) f6 f7 (hn ad sk) (hf ad sk) (by rw [List.length_map]; exact hl) hd (fun H1 locs1 hP hD hS => ?_)
  rw [← List.map_set] at hP hD
  exact kk p l e s m args below meth c dC dI ac sk A ad0 n0 Qs E ad H1 locs1 ls (N.upd (c := aO ci (fs.set j v)) hP hD hS)
theorem v_putF {idx ci j b : Nat} {ty : FieldType} {fs : List Value} {v : Value} (hd : decode cc pc = .ok (.putfield idx, 3)) (f : FL own idx ci j ty true) (hown : (vwCl[ci]?).map (fun q => q.1) = some own) (hnm : nm = "<init>") (hh : h[b]? = some (aO ci fs)) (hn : ∀ ad sk, narrow ty (xv ad sk v) = xv ad sk v) (hf : ∀ ad sk, fits ty (xv ad sk v) = true) (hl : j < fs.length) (kk : Vd own nm cc nL ret R Q mc ms k n (pc + 3) L st (h.set b (aO ci (fs.set j v)))) : Vd own nm cc nL ret R Q mc ms k n pc L (v :: .ref b :: st) h := by
  intro p l e s m args below meth c dC dI ac sk A ad0 n0 Qs E ad H locs ls N
  obtain ⟨C, T, NN, tyf, f1, f2, f3, f4, f5, f6, f7, f8, f9⟩ := f
  have ho : C = own := by rw [f1] at hown; exact Option.some.inj hown
  refine va_putF (ref := C) E.1.1 E.1.2.1 E.1.2.2.2.2.2.1 f2 tyf f8 f9 E.1.2.2.2.2.1 E.2.2.2.1 N.2.1 N.2.2.1 N.2.2.2.1 b (xw_of hh) f1 j f3 (E.1.2.2.2.2.2.1 _ f4) (by rw [f5]; exact fun _ h9 => h9) f6 (E.1.2.2.2.2.2.2.2.trans hnm) (f5.trans ho) f7 (hn ad sk) (hf ad sk) (by rw [List.length_map]; exact hl) hd (fun H1 locs1 hP hD hS => ?_)
  rw [← List.map_set] at hP hD
  exact kk p l e s m args below meth c dC dI ac sk A ad0 n0 Qs E ad H1 locs1 ls (N.upd (c := aO ci (fs.set j v)) hP hD hS)
theorem v_iald {b m0 : Nat} {f : Nat → Int32} {i : Int32} (hd : decode cc pc = .ok (.iaload, 1)) (hh : h[b]? = some (aI 0 m0 f)) (hi : vp_in i m0) (kk : Vd own nm cc nL ret R Q mc ms k n (pc + 1) L (.int (f i.toNatClampNeg) :: st) h) : Vd own nm cc nL ret R Q mc ms k n pc L (.int i :: .ref b :: st) h := by
  intro p l e s m args below meth c dC dI ac sk A ad0 n0 Qs E ad H locs ls N
  exact va_iald E.1.1 E.1.2.1 E.2.2.2.1 N.2.1 b 0 (xw_of hh) rfl hi hd (kk p l e s m args below meth c dC dI ac sk A ad0 n0 Qs E ad H locs ls N)
theorem v_bald {b m0 : Nat} {f : Nat → Int32} {i : Int32} (hd : decode cc pc = .ok (.baload, 1)) (hh : h[b]? = some (aI 1 m0 f)) (hi : vp_in i m0) (kk : Vd own nm cc nL ret R Q mc ms k n (pc + 1) L (.int (f i.toNatClampNeg) :: st) h) : Vd own nm cc nL ret R Q mc ms k n pc L (.int i :: .ref b :: st) h := by
  intro p l e s m args below meth c dC dI ac sk A ad0 n0 Qs E ad H locs ls N
  exact va_bald E.1.1 E.1.2.1 E.2.2.2.1 N.2.1 b 1 (xw_of hh) rfl hi hd (kk p l e s m args below meth c dC dI ac sk A ad0 n0 Qs E ad H locs ls N)
theorem v_zald {b m0 : Nat} {f : Nat → Int32} {i : Int32} (hd : decode cc pc = .ok (.baload, 1)) (hh : h[b]? = some (aI 2 m0 f)) (hi : vp_in i m0) (kk : Vd own nm cc nL ret R Q mc ms k n (pc + 1) L (.int (f i.toNatClampNeg) :: st) h) : Vd own nm cc nL ret R Q mc ms k n pc L (.int i :: .ref b :: st) h := by
  intro p l e s m args below meth c dC dI ac sk A ad0 n0 Qs E ad H locs ls N
  exact va_zald E.1.1 E.1.2.1 E.2.2.2.1 N.2.1 b 2 (xw_of hh) rfl hi hd (kk p l e s m args below meth c dC dI ac sk A ad0 n0 Qs E ad H locs ls N)
theorem v_iast {b m0 : Nat} {f : Nat → Int32} {i x : Int32} (hd : decode cc pc = .ok (.iastore, 1)) (hh : h[b]? = some (aI 0 m0 f)) (hi : vp_in i m0) (kk : Vd own nm cc nL ret R Q mc ms k n (pc + 1) L st (h.set b (aI 0 m0 (upd f i.toNatClampNeg (x))))) : Vd own nm cc nL ret R Q mc ms k n pc L (.int x :: .int i :: .ref b :: st) h := by
  intro p l e s m args below meth c dC dI ac sk A ad0 n0 Qs E ad H locs ls N
  exact va_iast E.1.1 E.1.2.1 E.2.2.2.1 N.2.1 N.2.2.1 N.2.2.2.1 b 0 (xw_of hh) rfl hi hd (fun H1 locs1 hP hD hS => kk p l e s m args below meth c dC dI ac sk A ad0 n0 Qs E ad H1 locs1 ls (N.upd (c := aI 0 m0 (upd f i.toNatClampNeg (x))) hP hD hS))
theorem v_bast {b m0 : Nat} {f : Nat → Int32} {i x : Int32} (hd : decode cc pc = .ok (.bastore, 1)) (hh : h[b]? = some (aI 1 m0 f)) (hi : vp_in i m0) (kk : Vd own nm cc nL ret R Q mc ms k n (pc + 1) L st (h.set b (aI 1 m0 (upd f i.toNatClampNeg (vp_nar .byte x))))) : Vd own nm cc nL ret R Q mc ms k n pc L (.int x :: .int i :: .ref b :: st) h := by
  intro p l e s m args below meth c dC dI ac sk A ad0 n0 Qs E ad H locs ls N
  exact va_bast E.1.1 E.1.2.1 E.2.2.2.1 N.2.1 N.2.2.1 N.2.2.2.1 b 1 (xw_of hh) rfl hi hd (fun H1 locs1 hP hD hS => kk p l e s m args below meth c dC dI ac sk A ad0 n0 Qs E ad H1 locs1 ls (N.upd (c := aI 1 m0 (upd f i.toNatClampNeg (vp_nar .byte x))) hP hD hS))
theorem v_zast {b m0 : Nat} {f : Nat → Int32} {i x : Int32} (hd : decode cc pc = .ok (.bastore, 1)) (hh : h[b]? = some (aI 2 m0 f)) (hi : vp_in i m0) (kk : Vd own nm cc nL ret R Q mc ms k n (pc + 1) L st (h.set b (aI 2 m0 (upd f i.toNatClampNeg (vp_nar .boolean x))))) : Vd own nm cc nL ret R Q mc ms k n pc L (.int x :: .int i :: .ref b :: st) h := by
  intro p l e s m args below meth c dC dI ac sk A ad0 n0 Qs E ad H locs ls N
  exact va_zast E.1.1 E.1.2.1 E.2.2.2.1 N.2.1 N.2.2.1 N.2.2.2.1 b 2 (xw_of hh) rfl hi hd (fun H1 locs1 hP hD hS => kk p l e s m args below meth c dC dI ac sk A ad0 n0 Qs E ad H1 locs1 ls (N.upd (c := aI 2 m0 (upd f i.toNatClampNeg (vp_nar .boolean x))) hP hD hS))
theorem v_alen {b tc m0 : Nat} {f : Nat → Int32} {v : Int32} (hd : decode cc pc = .ok (.arraylength, 1)) (hh : h[b]? = some (aI tc m0 f)) (htc : tc < 5) (hv : Int32.ofNat m0 = v) (kk : Vd own nm cc nL ret R Q mc ms k n (pc + 1) L (.int v :: st) h) : Vd own nm cc nL ret R Q mc ms k n pc L (.ref b :: st) h := by
  intro p l e s m args below meth c dC dI ac sk A ad0 n0 Qs E ad H locs ls N
  obtain ⟨ty, hty⟩ : ∃ ty, (ab_ty ac)[tc]? = some (ac tc, ty) := by
    rcases (show tc = 0 ∨ tc = 1 ∨ tc = 2 ∨ tc = 3 ∨ tc = 4 by omega) with rfl | rfl | rfl | rfl | rfl <;> exact ⟨_, rfl⟩
  exact va_alen E.1.1 E.1.2.1 E.2.2.2.1 N.2.1 b tc (xw_of hh) hty hv hd (kk p l e s m args below meth c dC dI ac sk A ad0 n0 Qs E ad H locs ls N)
theorem v_aald {b tc r : Nat} {lr : List (Option Nat)} {i : Int32} (hd : decode cc pc = .ok (.aaload, 1)) (hh : h[b]? = some (aR tc lr)) (htc : tc = 3 ∨ tc = 4) (hi : vp_in i lr.length) (hr : lr.getD i.toNatClampNeg none = some r) (kk : Vd own nm cc nL ret R Q mc ms k n (pc + 1) L (.ref r :: st) h) : Vd own nm cc nL ret R Q mc ms k n pc L (.int i :: .ref b :: st) h := by
  intro p l e s m args below meth c dC dI ac sk A ad0 n0 Qs E ad H locs ls N
  obtain ⟨C, hty⟩ : ∃ C, (ab_ty ac)[tc]? = some (ac tc, .object C) := by
    rcases htc with rfl | rfl <;> exact ⟨_, rfl⟩
  refine va_aldq E.1.1 E.1.2.1 E.2.2.2.1 N.2.1 b tc (xw_of hh) hty hi hd ?_
  rw [hr]
  exact (kk p l e s m args below meth c dC dI ac sk A ad0 n0 Qs E ad H locs ls N)
theorem v_iret {x : Int32} {ty : FieldType} (hd : decode cc pc = .ok (.ireturn, 1)) (hr : ret = some ty) (hn : narrow ty (.int x) = .int x) (h1 : k ≤ mc) (h2 : n ≤ ms) (hq : Q (some (.int x)) h) : Vd own nm cc nL ret R Q mc ms k n pc L [.int x] h := by
  intro p l e s m args below meth c dC dI ac sk A ad0 n0 Qs E ad H locs ls N
  exact W.widen h1 h2 (E.2.2.2.2 ad H locs ls (some (.int x)) .ireturn h pc hq (Or.inr (Or.inl ⟨ty, x, hr, rfl, rfl, hn⟩)) hd (N.loc (fun _ hq => by cases hq)))
theorem v_lret {x : Int64} (hd : decode cc pc = .ok (.lreturn, 1)) (hr : ret = some .long) (h1 : k ≤ mc) (h2 : n ≤ ms) (hq : Q (some (.long x)) h) : Vd own nm cc nL ret R Q mc ms k n pc L [.long x] h := by
  intro p l e s m args below meth c dC dI ac sk A ad0 n0 Qs E ad H locs ls N
  exact W.widen h1 h2 (E.2.2.2.2 ad H locs ls (some (.long x)) .lreturn h pc hq (Or.inr (Or.inr (Or.inl ⟨hr, x, rfl, rfl⟩))) hd (N.loc (fun _ hq => by cases hq)))
theorem v_aret {x : Nat} {t : String} (hd : decode cc pc = .ok (.areturn, 1)) (hr : ret = some (.object t)) (h1 : k ≤ mc) (h2 : n ≤ ms) (hq : Q (some (.ref x)) h) : Vd own nm cc nL ret R Q mc ms k n pc L [.ref x] h := by
  intro p l e s m args below meth c dC dI ac sk A ad0 n0 Qs E ad H locs ls N
  exact W.widen h1 h2 (E.2.2.2.2 ad H locs ls (some (.ref x)) .areturn h pc hq (Or.inr (Or.inr (Or.inr ⟨t, x, hr, rfl, rfl⟩))) hd (N.loc (fun _ hq => by cases hq)))
theorem v_vret (hd : decode cc pc = .ok (.return_, 1)) (hr : ret = none) (h1 : k ≤ mc) (h2 : n ≤ ms) (hq : Q none h) : Vd own nm cc nL ret R Q mc ms k n pc L [] h := by
  intro p l e s m args below meth c dC dI ac sk A ad0 n0 Qs E ad H locs ls N
  exact W.widen h1 h2 (E.2.2.2.2 ad H locs ls none .return_ h pc hq (Or.inl ⟨hr, rfl, rfl⟩) hd (N.loc (fun _ hq => by cases hq)))
end VHEAP
/-! A METHOD'S CONTRACT over the abstract heap -/
def Pq (dC : Nat → ClassId) (dI : Nat → Nat → Nat) (ac : Nat → ClassId) (sk : Nat → Nat) (ad0 : Nat → Nat) (n0 : Nat) (A : Nat → Prop) (Q : Option Value → ab_H → Prop) : Array Value → State → Outcome → State → Prop := fun _ st oc t =>
  (∃ (v : Option Value) (h' : ab_H) (ad' : Nat → Nat), oc = .returned (v.map (xv ad' sk)) ∧ Q v h' ∧ (n0 ≤ h'.length ∧ (∀ j, j < n0 → ad' j = ad0 j) ∧ (h'.length = n0 → ad' = ad0)) ∧ va_P (dC, dI) vwCl (xw ad' sk ac h') t.heap ∧ va_D A (xw ad' sk ac h')) ∧ va_F A st t
def Mt (y : MethodName) (cc : ByteArray) (nL : Nat) (ret : Option FieldType) (R : Room) (as : List Value) (h : ab_H) (Q : Option Value → ab_H → Prop) : Prop :=
  ∀ (l : Launch) (dC : Nat → ClassId) (dI : Nat → Nat → Nat) (ac : Nat → ClassId) (sk ad : Nat → Nat) (sz : Nat), Met l y (.code y cc nL ret :: gw) R (va_Pc (as.map (xv ad sk)) (fun U => U.heap.size = sz ∧ va_P (dC, dI) vwCl (xw ad sk ac h) U.heap ∧ va_K (dC, dI) vwCl (ab_ty ac) U ∧ va_D (fun _ => True) (xw ad sk ac h) ∧ SX sk (va_A (xw ad sk ac h) sz) U U.heap)) (Pq dC dI ac sk ad h.length (va_A (xw ad sk ac h) sz) Q) R.cells R.slots (va_A (xw ad sk ac h) sz)
theorem lv_args_map (ad sk : Nat → Nat) : ∀ (as : List Value) (i : Nat), lv_args i (as.map (xv ad sk)) = (lv_args i as).map (fun q => (q.1, xv ad sk q.2)) := by
  intro as
  induction as with
  | nil => intro i; rfl
  | cons v t ih =>
    intro i
    simp only [List.map_cons, lv_args, xv_cat, ih]
theorem lg_sl_map (ad sk : Nat → Nat) : ∀ (as : List Value), (lg_sl (as.map (xv ad sk))).length = (lg_sl as).length := by
  intro as
  induction as with
  | nil => rfl
  | cons v t ih =>
    cases v <;> simp_all [lg_sl, xv, Value.category]
set_option maxHeartbeats 4000000 in
theorem Mt.of {y : MethodName} {cc : ByteArray} {nL : Nat} {ret : Option FieldType} {R : Room} {as : List Value} {h : ab_H} {Q : Option Value → ab_H → Prop} (hy : plainName y.cls = true) (hn : (lg_sl as).length ≤ nL) (hV : Vd y.cls y.name cc nL ret R Q R.cells R.slots 0 0 0 (lv_args 0 as) [] h) : Mt y cc nL ret R as h Q := by
  intro l dC dI ac sk ad sz
  refine Met.ofW (cc := cc) (maxL := nL) (ret := ret) hy rfl ?_
  intro p e s m args below meth c s₁ B hml hv
  obtain ⟨rfl, hsz, hP, hK, hD0, hX⟩ := hv
  have hts : ∀ w ∈ gw, w.before (as.map (xv ad sk)).toArray s = true := fun w hw => atoms_spec (ws := Cond.code y cc nL ret :: gw) B.pre w (List.mem_cons_of_mem _ hw)
  subst hsz
  have hD := hD0.self (sz := s.heap.size)
  have hA : ∀ q : Nat, s.heap.size ≤ q → va_A (xw ad sk ac h) s.heap.size q := fun q h => Or.inr h
  have hS : va_S (va_A (xw ad sk ac h) s.heap.size) s.heap s.heap [] := va_S.rf
  have hl := lv_entry (as.map (xv ad sk)) (n := nL) (by rw [lg_sl_map]; exact hn)
  rw [lg_entry_eq]
  rw [lv_args_map] at hl
  have C : Cx y.cls y.name cc nL ret p s m (as.map (xv ad sk)).toArray meth c := ⟨B.exec, B.bytes, B.returns, hml, findClass_of_methodNamed B.named, hts, B.notSynchronized, (name_of_methodNamed B.named B.method).1⟩
  have hlocks := B.notSynchronized
  refine hV p l e s m _ below meth c dC dI ac sk (va_A (xw ad sk ac h) s.heap.size) ad h.length _ ⟨C, hA, hX, hK, ?_⟩ ad s.heap [] _ ⟨⟨Nat.le_refl _, fun _ _ => rfl, fun _ => rfl⟩, hP, hD, hS, hl⟩
  intro ad' H' locs' ls' v ins h' pcr hq hret hdec N
  have fin : ∀ t : State, t.heap = H' → s.WarmedH t.vm → Pq dC dI ac sk ad h.length (va_A (xw ad sk ac h) s.heap.size) Q (as.map (xv ad sk)).toArray s (.returned (v.map (xv ad' sk))) t := fun t ht _ => ⟨⟨v, h', ad', rfl, hq, N.1, by rw [ht]; exact N.2.1, N.2.2.1⟩, N.2.2.2.1.F ht⟩
  rcases hret with ⟨r1, rfl, rfl⟩ | ⟨ty, x, r1, rfl, rfl, r2⟩ | ⟨r1, x, rfl, rfl⟩ | ⟨t, x, r1, rfl, rfl⟩
  · exact W.vret B.exec B.bytes (B.returns.trans r1) fin N.2.2.2.1.2.2 hdec
  · exact W.zret B.exec B.bytes (B.returns.trans r1) r2 fin N.2.2.2.1.2.2 hdec
  · exact W.lret B.exec B.bytes (B.returns.trans r1) fin N.2.2.2.1.2.2 hdec
  · exact W.aret B.exec B.bytes (B.returns.trans r1) (Or.inl ⟨_, rfl⟩) (Or.inr ⟨_, rfl⟩) fin N.2.2.2.1.2.2 hdec
end
section

/-! CALLS: the callee's small heap lies in the caller's at the places rr -/
def rv (r : Nat → Nat) : Value → Value
  | .ref k => .ref (r k)
  | .retAddr i => .retAddr i
  | .int x => .int x
  | .long x => .long x
  | .float x => .float x
  | .double x => .double x
  | .null => .null
def rc (r : Nat → Nat) : ab_C → ab_C
  | .inl (t, n, f) => .inl (t, n, f)
  | .inr (.inl (t, l)) => .inr (.inl (t, l.map (fun o => o.map r)))
  | .inr (.inr (c, fs)) => .inr (.inr (c, fs.map (rv r)))
theorem xv_rv (ad sk r : Nat → Nat) (v : Value) : xv (fun i => ad (r i)) sk v = xv ad sk (rv r v) := by cases v <;> rfl
theorem xc_rc (ad sk r : Nat → Nat) (ac : Nat → ClassId) (c : ab_C) : xc (fun i => ad (r i)) sk ac c = xc ad sk ac (rc r c) := by
  rcases c with ⟨t, n, f⟩ | ⟨t, l⟩ | ⟨c, fs⟩
  · rfl
  · have e : (fun j => (l.getD j none).map (fun i => ad (r i))) = (fun j => ((l.map (fun o => o.map r)).getD j none).map ad) := by
      funext j
      simp only [List.getD_eq_getElem?_getD, List.getElem?_map]
      cases l[j]? with
      | none => rfl
      | some o => cases o <;> rfl
    simp only [xc, rc, List.length_map, e]
  · simp only [xc, rc, List.map_map]
    congr 2
    exact List.map_congr_left (fun v _ => xv_rv ad sk r v)
def ab_r (rr : List Nat) : Nat → Nat := fun i => rr.getD i 0
def ab_put : ab_H → List Nat → List ab_C → ab_H
  | h, [], _ => h
  | h, _ :: _, [] => h
  | h, j :: rr, c :: cs => ab_put (h.set j c) rr cs
theorem ab_put_len : ∀ (rr : List Nat) (cs : List ab_C) (h : ab_H), (ab_put h rr cs).length = h.length := by
  intro rr
  induction rr with
  | nil => intro cs h; cases cs <;> rfl
  | cons j rr ih =>
    intro cs h
    cases cs with
    | nil => rfl
    | cons c cs => rw [ab_put, ih, List.length_set]
theorem ab_put_out : ∀ (rr : List Nat) (cs : List ab_C) (h : ab_H) (q : Nat), q ∉ rr → (ab_put h rr cs)[q]? = h[q]? := by
  intro rr
  induction rr with
  | nil => intro cs h q _; cases cs <;> rfl
  | cons j rr ih =>
    intro cs h q hq
    cases cs with
    | nil => rfl
    | cons c cs =>
      rw [ab_put, ih cs _ q (fun z => hq (List.mem_cons_of_mem _ z)), List.getElem?_set_ne (fun e => hq (by rw [e]; exact List.mem_cons_self))]
theorem ab_put_in : ∀ (rr : List Nat) (cs : List ab_C) (h : ab_H) (i q : Nat), va_nd rr = true → rr.length = cs.length → rr[i]? = some q → q < h.length → (ab_put h rr cs)[q]? = cs[i]? := by
  intro rr
  induction rr with
  | nil => intro cs h i q _ _ hi; simp at hi
  | cons j rr ih =>
    intro cs h i q hn hl hi hq
    cases cs with
    | nil => simp at hl
    | cons c cs =>
      simp only [va_nd, Bool.and_eq_true, decide_eq_true_eq] at hn
      rw [ab_put]
      cases i with
      | zero =>
        have e : j = q := by simpa using hi
        subst e
        rw [ab_put_out rr cs _ j hn.1, List.getElem?_set_self hq]
        rfl
      | succ i =>
        rw [ih cs _ i q hn.2 (by simpa using hl) (by simpa using hi) (by rw [List.length_set]; exact hq)]
        rfl
section VCALL
variable {own nm : String} {cc : ByteArray} {nL : Nat} {ret : Option FieldType} {R : Room} {Q : Option Value → ab_H → Prop} {mc ms k n pc : Nat} {L : List (Nat × Value)} {st : List Value} {h : ab_H}
theorem ab_sub {ad sk : Nat → Nat} {ac : Nat → ClassId} {rr : List Nat} {hs : ab_H} (hr : rr.map (fun j => h[j]?) = hs.map (fun c => some (rc (ab_r rr) c))) : rr.map (fun i => (xw ad sk ac h)[i]?) = (xw (fun i => ad (ab_r rr i)) sk ac hs).map some := by
  apply List.ext_getElem?
  intro i
  have h1 := congrArg (fun z => z[i]?) hr
  simp only [List.getElem?_map] at h1 ⊢
  rw [xw_at]
  cases hi : rr[i]? with
  | none =>
    rw [hi] at h1
    cases hc : hs[i]? with
    | none => rfl
    | some c => rw [hc] at h1; cases h1
  | some j =>
    rw [hi] at h1
    cases hc : hs[i]? with
    | none => rw [hc] at h1; cases h1
    | some c =>
      rw [hc] at h1
      have h2 : h[j]? = some (rc (ab_r rr) c) := Option.some.inj h1
      have hj : ab_r rr i = j := by simp [ab_r, List.getD_eq_getElem?_getD, hi]
      show some ((xw ad sk ac h)[j]?) = some (some _)
      rw [xw_of h2]
      show some (some (ad j, xc ad sk ac (rc (ab_r rr) c))) = some (some (ad (ab_r rr i), xc (fun i => ad (ab_r rr i)) sk ac c))
      rw [xc_rc ad sk (ab_r rr) ac c, hj]
set_option maxHeartbeats 4000000 in
theorem ab_cont {p : Program} {l : Launch} {e : Env} {s : State} {m : MethodId} {args : Array Value} {below : List Frame} {meth : Method} {c : Code} {dC : Nat → ClassId} {dI : Nat → Nat → Nat} {ac : Nat → ClassId} {sk : Nat → Nat} {A : Nat → Prop} {ad0 : Nat → Nat} {n0 : Nat} {Qs : State → Prop}
    (E : Ev own nm cc nL ret R Q mc ms p l e s m args below meth c dC dI ac sk A ad0 n0 Qs) {ad : Nat → Nat} {H : Heap} {locs : List Loc} {ls : Array Slot} (N : Nw dC dI ac sk A ad0 n0 s nL L h ad H locs ls) (rr : List Nat) {hs : ab_H} (hr : rr.map (fun j => h[j]?) = hs.map (fun c => some (rc (ab_r rr) c))) (hnd : va_nd rr = true) {Qc : Option Value → ab_H → Prop} {a : Array Value} {st0 : List Value}
    (run : va_Run p l e R s m args below meth c H locs k n 0 0 (F0 m pc ls st0) (st.map (xv ad sk)) (Pq dC dI ac sk (fun i => ad (ab_r rr i)) hs.length (va_A (xw (fun i => ad (ab_r rr i)) sk ac hs) H.size) Qc a) (va_A (xw (fun i => ad (ab_r rr i)) sk ac hs) H.size))
    (hlen : ∀ v h', Qc v h' → h'.length = hs.length) (kk : ∀ v h', Qc v h' → Vd own nm cc nL ret R Q mc ms k n (pc + 3) L ((v.map (rv (ab_r rr))).toList ++ st) (ab_put h rr (h'.map (rc (ab_r rr))))) : W p l e R s m args below meth c H locs k n Qs (F0 m pc ls st0) := by
  have hC := ab_sub (ad := ad) (sk := sk) (ac := ac) hr
  obtain ⟨hx, hP, hD, hS, hl⟩ := N
  have hF := va_free hD hS E.2.1 rr hC
  have hll : rr.length = hs.length := by simpa using congrArg List.length hr
  intro T hT X
  obtain ⟨v, st₀, t, T', Lx, h0, X', hL, e1, e2, ⟨⟨v', h', ad', hv, hq, ⟨-, -, hy⟩, hP1, hD1⟩, hz, hk⟩, stp⟩ := run T hT X
  have hlh := hlen v' h' hq
  have had := hy hlh
  subst had
  obtain rfl : v = v'.map (xv (fun i => ad (ab_r rr i)) sk) := by cases hv; rfl
  rw [h0] at hz hk
  rw [← e1] at hP1 hz hk
  have hS' : va_S A s.heap T'.heap (locs ++ Lx) := ⟨Nat.le_trans hS.1 hz, fun q h1 h2 => by rw [hk q (Nat.lt_of_lt_of_le h1 hS.1) (fun z => h2 (hF q z))]; exact hS.2.1 q h1 h2, fun q hq => by
      rcases List.mem_append.mp hq with h | h
      · exact hS.2.2 q h
      · exact hF _ (hL q h)⟩
  have hsub : ∀ (i : Nat) (x : Nat × va_E), (xw (fun i => ad (ab_r rr i)) sk ac hs)[i]? = some x → ∃ j, rr[i]? = some j ∧ (xw ad sk ac h)[j]? = some x := by
    intro i x hi
    have h1 := congrArg (fun z => z[i]?) hC
    simp only [List.getElem?_map] at h1
    rw [hi] at h1
    cases hj : rr[i]? with
    | none => rw [hj] at h1; cases h1
    | some j =>
      rw [hj] at h1
      exact ⟨j, rfl, Option.some.inj h1⟩
  have hin : ∀ (i j : Nat), rr[i]? = some j → j < h.length := by
    intro i j hi
    have h1 := congrArg (fun z => z[i]?) hr
    simp only [List.getElem?_map] at h1
    rw [hi] at h1
    cases hc : hs[i]? with
    | none => rw [hc] at h1; cases h1
    | some c =>
      rw [hc] at h1
      exact (List.getElem?_eq_some_iff.mp (Option.some.inj h1)).1
  have hlp : (ab_put h rr (h'.map (rc (ab_r rr)))).length = h.length := ab_put_len _ _ _
  have hP2 : va_P (dC, dI) vwCl (xw ad sk ac (ab_put h rr (h'.map (rc (ab_r rr))))) T'.heap := by
    intro q x hx2
    rw [xw_at] at hx2
    by_cases hqr : q ∈ rr
    · obtain ⟨i, hi⟩ := List.getElem?_of_mem hqr
      rw [ab_put_in rr _ h i q hnd (by rw [List.length_map, hlh, hll]) hi (hin i q hi), List.getElem?_map] at hx2
      cases hc : h'[i]? with
      | none => rw [hc] at hx2; cases hx2
      | some c =>
        rw [hc] at hx2
        have e : x = (ad q, xc ad sk ac (rc (ab_r rr) c)) := (Option.some.inj hx2).symm
        rw [e, ← xc_rc]
        have hj : ab_r rr i = q := by simp [ab_r, List.getD_eq_getElem?_getD, hi]
        have h2 := hP1 i _ (xw_of hc)
        rw [hj] at h2
        exact h2
    · rw [ab_put_out rr _ h q hqr] at hx2
      have h3 : (xw ad sk ac h)[q]? = some x := by rw [xw_at]; exact hx2
      have hlt := (hP q x h3).lt
      refine (hP q x h3).kept (hk x.1 hlt (fun z => ?_))
      rcases z with ⟨i, e, hi⟩ | z
      · obtain ⟨j, h4, h5⟩ := hsub i _ hi
        have := hD.1 q j _ _ h3 h5 rfl
        subst this
        exact hqr (List.mem_of_getElem? h4)
      · omega
  have hD2 : va_D A (xw ad sk ac (ab_put h rr (h'.map (rc (ab_r rr))))) := by
    have key : ∀ (q : Nat) (x : Nat × va_E), (xw ad sk ac (ab_put h rr (h'.map (rc (ab_r rr)))))[q]? = some x → ∃ y, (xw ad sk ac h)[q]? = some y ∧ y.1 = x.1 := by
      intro q x hx2
      have hlt : q < h.length := by
        have := (List.getElem?_eq_some_iff.mp hx2).1
        simpa [xw, hlp] using this
      refine ⟨_, xw_of (List.getElem?_eq_getElem hlt), ?_⟩
      rw [xw_at] at hx2
      cases hc : (ab_put h rr (h'.map (rc (ab_r rr))))[q]? with
      | none => rw [hc] at hx2; cases hx2
      | some c => rw [hc] at hx2; rw [← Option.some.inj hx2]
    refine ⟨fun i j x y hi hj hxy => ?_, fun q x hx2 => ?_⟩
    · obtain ⟨x0, a1, a2⟩ := key i x hi
      obtain ⟨y0, b1, b2⟩ := key j y hj
      exact hD.1 i j x0 y0 a1 b1 (a2.trans (hxy.trans b2.symm))
    · obtain ⟨x0, a1, a2⟩ := key q x hx2
      rw [← a2]
      exact hD.2 q x0 a1
  have w := kk v' h' hq p l e s m args below meth c dC dI ac sk A ad0 n0 Qs E ad T'.heap (locs ++ Lx) ls ⟨⟨by rw [hlp]; exact hx.1, hx.2.1, by rw [hlp]; exact hx.2.2⟩, hP2, hD2, hS', hl⟩
  obtain ⟨t2, a1, b1⟩ := w T' rfl X'
  refine ⟨t2, stp t2 ?_, b1⟩
  have e9 : (v'.map (xv (fun i => ad (ab_r rr i)) sk)).toList ++ st.map (xv ad sk) = ((v'.map (rv (ab_r rr))).toList ++ st).map (xv ad sk) := by
    cases v' with
    | none => rfl
    | some v' => simp [xv_rv]
  show Steps p.tables e below (T'.setTop { F0 m pc ls st0 with pc := pc + 3, stack := (v'.map (xv (fun i => ad (ab_r rr i)) sk)).toList ++ st.map (xv ad sk) }) t2
  rw [e9]
  exact a1
/-- an instance method that a link names -/
def MV (own : String) (idx : Nat) (y : MethodName) (cc : ByteArray) (nL : Nat) (ret : Option FieldType) (np : Nat) : Prop :=
  Cond.methodLink own idx y ∈ gw ∧ Cond.instanceMethod y ∈ gw ∧ Cond.selects y.cls y y ∈ gw ∧ Cond.initialized y.cls ∈ gw ∧ Cond.code y cc nL ret ∈ gw ∧ (y.cls ≠ "java/lang/invoke/MethodHandle" ∧ y.cls ≠ "java/lang/invoke/VarHandle" ∧ (parseMethodDescriptor y.desc).map (fun d => d.parameters.length) = some np)
def MS (own : String) (idx : Nat) (y : MethodName) (cc : ByteArray) (nL : Nat) (ret : Option FieldType) (np : Nat) : Prop :=
  Cond.methodLink own idx y ∈ gw ∧ Cond.static y ∈ gw ∧ Cond.initialized y.cls ∈ gw ∧ Cond.code y cc nL ret ∈ gw ∧ (y.cls ≠ "java/lang/invoke/MethodHandle" ∧ y.cls ≠ "java/lang/invoke/VarHandle" ∧ (parseMethodDescriptor y.desc).map (fun d => d.parameters.length) = some np)
def MN (own : String) (idx : Nat) (y : MethodName) (host : String) (cc : ByteArray) (nL : Nat) (ret : Option FieldType) (np : Nat) : Prop :=
  Cond.methodLinkNest own idx y host ∈ lw_tbl ∧ Cond.static y ∈ gw ∧ Cond.initialized y.cls ∈ gw ∧ Cond.code y cc nL ret ∈ gw ∧ (y.cls ≠ "java/lang/invoke/MethodHandle" ∧ y.cls ≠ "java/lang/invoke/VarHandle" ∧ (parseMethodDescriptor y.desc).map (fun d => d.parameters.length) = some np)
theorem gw_code {y : MethodName} {cc : ByteArray} {nL : Nat} {ret : Option FieldType} (h : Cond.code y cc nL ret ∈ gw) : GoodIn gw (Cond.code y cc nL ret :: gw) := fun w hw => by
  rcases List.mem_cons.mp hw with rfl | hw
  · exact gw_all _ h
  · exact gw_all _ hw
theorem Mt.blind {dC : Nat → ClassId} {dI : Nat → Nat → Nat} {ac : Nat → ClassId} {sk ad : Nat → Nat} {as : List Value} {hs : ab_H} {sz : Nat} : FrameBlind (va_Pc (as.map (xv ad sk)) (fun U => U.heap.size = sz ∧ va_P (dC, dI) vwCl (xw ad sk ac hs) U.heap ∧ va_K (dC, dI) vwCl (ab_ty ac) U ∧ va_D (fun _ => True) (xw ad sk ac hs) ∧ SX sk (va_A (xw ad sk ac hs) sz) U U.heap)) := fun a U g mk q => by
  obtain ⟨q0, q1, qP, qK, qD, qX⟩ := q
  exact ⟨q0, q1, qP, va_K.moved (u := U) (U := U.calling g mk a) (Vm.Alike.refl U.vm) qK, qD, SX.same (u := U) (U := U.calling g mk a) rfl qX⟩
theorem Mt.pre {p : Program} {l : Launch} {e : Env} {s : State} {m : MethodId} {args : Array Value} {below : List Frame} {meth : Method} {c : Code} {dC : Nat → ClassId} {dI : Nat → Nat → Nat} {ac : Nat → ClassId} {sk : Nat → Nat} {A : Nat → Prop} {ad0 : Nat → Nat} {n0 : Nat} {Qs : State → Prop}
    (E : Ev own nm cc nL ret R Q mc ms p l e s m args below meth c dC dI ac sk A ad0 n0 Qs) {ad : Nat → Nat} {H : Heap} {locs : List Loc} {ls : Array Slot} (N : Nw dC dI ac sk A ad0 n0 s nL L h ad H locs ls) (rr : List Nat) {hs : ab_H} (hr : rr.map (fun j => h[j]?) = hs.map (fun c => some (rc (ab_r rr) c))) (hnd : va_nd rr = true) {as As : List Value} (ha : as.map (rv (ab_r rr)) = As) :
    ∀ U : State, U.heap = H → s.WarmedH U.vm → va_Pc (as.map (xv (fun i => ad (ab_r rr i)) sk)) (fun U => U.heap.size = H.size ∧ va_P (dC, dI) vwCl (xw (fun i => ad (ab_r rr i)) sk ac hs) U.heap ∧ va_K (dC, dI) vwCl (ab_ty ac) U ∧ va_D (fun _ => True) (xw (fun i => ad (ab_r rr i)) sk ac hs) ∧ SX sk (va_A (xw (fun i => ad (ab_r rr i)) sk ac hs) H.size) U U.heap) (As.map (xv ad sk)).toArray U := by
  intro U hU hW
  have hC := ab_sub (ad := ad) (sk := sk) (ac := ac) hr
  have hC2 : rr.filterMap (fun i => (xw ad sk ac h)[i]?) = xw (fun i => ad (ab_r rr i)) sk ac hs := by
    have h1 : (rr.map (fun i => (xw ad sk ac h)[i]?)).filterMap id = ((xw (fun i => ad (ab_r rr i)) sk ac hs).map some).filterMap id := by rw [hC]
    simpa [List.filterMap_map] using h1
  have hP := N.2.1.sub rr hC2
  have hD := N.2.2.1.sub rr hnd hC
  have hF := va_free N.2.2.1 N.2.2.2.1 E.2.1 rr hC
  refine ⟨?_, by rw [hU], by rw [hU]; exact hP, va_K.moved hW.alike E.2.2.2.1, hD.weaken (fun _ _ _ _ => trivial), SX.move E.2.2.1 N.2.2.2.1 hW hU hF⟩
  rw [← ha, List.map_map]
  congr 1
  exact List.map_congr_left (fun v _ => (xv_rv ad sk (ab_r rr) v).symm)
variable {y : MethodName} {cy : ByteArray} {nLy : Nat} {rety : Option FieldType} {Ry : Room} {as : List Value} {hs : ab_H} {Qc : Option Value → ab_H → Prop}
set_option maxHeartbeats 4000000 in
theorem v_invV {idx np b ci : Nat} {As : List Value} {fs : List Value} {stk : List Value} (rr : List Nat) (hd : decode cc pc = .ok (.invokevirtual idx, 3)) (f : MV own idx y cy nLy rety np) (hM : Mt y cy nLy rety Ry as hs Qc) (hr : rr.map (fun j => h[j]?) = hs.map (fun c => some (rc (ab_r rr) c))) (hnd : va_nd rr = true) (ha : as.map (rv (ab_r rr)) = .ref b :: As) (hstk : stk = As.reverse ++ .ref b :: st) (hnp : As.length = np) (hb : h[b]? = some (aO ci fs)) (hci : (vwCl[ci]?).map (fun q => q.1) = some y.cls) (hcat : (st.map fun v => v.category).sum ≤ 8) (hR0 : Ry.cells = 0 ∧ Ry.slots = 0) (hR : Ry.frames + 1 ≤ R.frames ∧ 8 + (nLy + 11) + Ry.locals ≤ R.locals) (hk : k ≤ R.cells ∧ n ≤ R.slots) (hlen : ∀ v h', Qc v h' → h'.length = hs.length) (kk : ∀ v h', Qc v h' → Vd own nm cc nL ret R Q mc ms k n (pc + 3) L ((v.map (rv (ab_r rr))).toList ++ st) (ab_put h rr (h'.map (rc (ab_r rr))))) : Vd own nm cc nL ret R Q mc ms k n pc L stk h := by
  intro p l e s m args below meth c dC dI ac sk A ad0 n0 Qs E ad H locs ls N
  obtain ⟨f1, f2, f3, f4, f5, f6⟩ := f
  have hM := hM l dC dI ac sk (fun i => ad (ab_r rr i)) H.size
  rw [hR0.1, hR0.2] at hM
  obtain ⟨q, hq1, hq2⟩ : ∃ q, vwCl[ci]? = some q ∧ q.1 = y.cls := by
    cases hc : vwCl[ci]? with
    | none => rw [hc] at hci; cases hci
    | some q => rw [hc] at hci; exact ⟨q, rfl, Option.some.inj hci⟩
  have hg : GoodIn gw (wsV own idx y.cls y (Cond.code y cy nLy rety :: gw)) := fun w hw => by
    rcases List.mem_append.mp hw with hw | hw
    · simp only [List.mem_cons, List.not_mem_nil, or_false] at hw
      rcases hw with rfl | rfl | rfl | rfl
      · exact gw_all _ f1
      · exact gw_all _ f2
      · exact gw_all _ f3
      · exact gw_all _ f4
    · exact gw_code f5 w hw
  have hpre := Mt.pre E N rr hr hnd ha
  subst hstk
  refine ab_cont E N rr hr hnd (va_runV (As := As.map (xv ad sk)) (rest := st.map (xv ad sk)) (b := ad b) ⟨E.1.1, E.1.2.1, E.1.2.2.2.1, E.1.2.2.2.2.1, E.1.2.2.2.2.2.1⟩ hM (cwV np E.1.2.2.2.2.2.1 hg rfl hR0.1 hR0.2 ⟨rfl, f6.1, f6.2.1, f6.2.2⟩ hR) ⟨Mt.blind, ?_, hpre⟩ rfl (by rw [List.length_map]; exact hnp) N.2.2.2.2.1 (by show List.map _ _ = _; simp [xv]) (lv_room (by rw [xv_cats]; exact hcat)) hd ⟨hk.1, hk.2⟩) hlen kk
  rw [← hq2]
  exact va_recv E.2.2.2.1 N.2.1 hq1 (xw_of hb)
set_option maxHeartbeats 4000000 in
theorem v_invS {idx np : Nat} {As : List Value} {stk : List Value} (rr : List Nat) (hd : decode cc pc = .ok (.invokestatic idx, 3)) (f : MS own idx y cy nLy rety np) (hM : Mt y cy nLy rety Ry as hs Qc) (hr : rr.map (fun j => h[j]?) = hs.map (fun c => some (rc (ab_r rr) c))) (hnd : va_nd rr = true) (ha : as.map (rv (ab_r rr)) = As) (hstk : stk = As.reverse ++ st) (hnp : As.length = np) (hcat : (st.map fun v => v.category).sum ≤ 8) (hR0 : Ry.cells = 0 ∧ Ry.slots = 0) (hR : Ry.frames + 1 ≤ R.frames ∧ 8 + (nLy + 11) + Ry.locals ≤ R.locals) (hk : k ≤ R.cells ∧ n ≤ R.slots) (hlen : ∀ v h', Qc v h' → h'.length = hs.length) (kk : ∀ v h', Qc v h' → Vd own nm cc nL ret R Q mc ms k n (pc + 3) L ((v.map (rv (ab_r rr))).toList ++ st) (ab_put h rr (h'.map (rc (ab_r rr))))) : Vd own nm cc nL ret R Q mc ms k n pc L stk h := by
  intro p l e s m args below meth c dC dI ac sk A ad0 n0 Qs E ad H locs ls N
  obtain ⟨f1, f2, f4, f5, f6⟩ := f
  have hM := hM l dC dI ac sk (fun i => ad (ab_r rr i)) H.size
  rw [hR0.1, hR0.2] at hM
  have hg : GoodIn gw (va_wsS own idx y (Cond.code y cy nLy rety :: gw)) := fun w hw => by
    rcases List.mem_append.mp hw with hw | hw
    · simp only [List.mem_cons, List.not_mem_nil, or_false] at hw
      rcases hw with rfl | rfl | rfl
      · exact gw_all _ f1
      · exact gw_all _ f2
      · exact gw_all _ f4
    · exact gw_code f5 w hw
  have hpre := Mt.pre E N rr hr hnd ha
  subst hstk
  exact ab_cont E N rr hr hnd (va_runS (As := As.map (xv ad sk)) (rest := st.map (xv ad sk)) ⟨E.1.1, E.1.2.1, E.1.2.2.2.1, E.1.2.2.2.2.1, E.1.2.2.2.2.2.1⟩ hM (va_cwS np E.1.2.2.2.2.2.1 hg rfl hR0.1 hR0.2 f6 hR) ⟨Mt.blind, hpre⟩ rfl (by rw [List.length_map]; exact hnp) N.2.2.2.2.1 (by show List.map _ _ = _; simp) (lv_room (by rw [xv_cats]; exact hcat)) hd ⟨hk.1, hk.2⟩) hlen kk
set_option maxHeartbeats 4000000 in
theorem v_invN {idx np : Nat} {host : String} {As : List Value} {stk : List Value} (rr : List Nat) (hd : decode cc pc = .ok (.invokestatic idx, 3)) (f : MN own idx y host cy nLy rety np) (hM : Mt y cy nLy rety Ry as hs Qc) (hr : rr.map (fun j => h[j]?) = hs.map (fun c => some (rc (ab_r rr) c))) (hnd : va_nd rr = true) (ha : as.map (rv (ab_r rr)) = As) (hstk : stk = As.reverse ++ st) (hnp : As.length = np) (hcat : (st.map fun v => v.category).sum ≤ 8) (hR0 : Ry.cells = 0 ∧ Ry.slots = 0) (hR : Ry.frames + 1 ≤ R.frames ∧ 8 + (nLy + 11) + Ry.locals ≤ R.locals) (hk : k ≤ R.cells ∧ n ≤ R.slots) (hlen : ∀ v h', Qc v h' → h'.length = hs.length) (kk : ∀ v h', Qc v h' → Vd own nm cc nL ret R Q mc ms k n (pc + 3) L ((v.map (rv (ab_r rr))).toList ++ st) (ab_put h rr (h'.map (rc (ab_r rr))))) : Vd own nm cc nL ret R Q mc ms k n pc L stk h := by
  intro p l e s m args below meth c dC dI ac sk A ad0 n0 Qs E ad H locs ls N
  obtain ⟨f1, f2, f4, f5, f6⟩ := f
  have hM := hM l dC dI ac sk (fun i => ad (ab_r rr i)) H.size
  rw [hR0.1, hR0.2] at hM
  have hpre := Mt.pre E N rr hr hnd ha
  subst hstk
  exact ab_cont E N rr hr hnd (va_runSN (As := As.map (xv ad sk)) (rest := st.map (xv ad sk)) (host := host) ⟨E.1.1, E.1.2.1, E.1.2.2.2.1, E.1.2.2.2.2.1, E.1.2.2.2.2.2.1⟩ hM ⟨va_cnB np E.1.2.2.2.2.2.1 (gw_code f5) rfl hR0.1 hR0.2 (E.2.2.1.1 _ f1 rfl) (E.1.2.2.2.2.2.1 _ f4) f6 hR, E.1.2.2.2.2.2.1 _ f2, trivial⟩ ⟨Mt.blind, hpre⟩ rfl (by rw [List.length_map]; exact hnp) N.2.2.2.2.1 (by show List.map _ _ = _; simp) (lv_room (by rw [xv_cats]; exact hcat)) hd ⟨hk.1, hk.2⟩) hlen kk
end VCALL
end
