-- ===== PART A: goes FIRST, ahead of the names: the tables' words, and 'selects' of the private methods out of them =====
/-- a private method of a class that the tables say can be made, by its rows of tables_1 -/
def lw_okq (q : MethodName × Nat) : Prop := (q.1.cls ≠ "java/lang/invoke/MethodHandle" ∧ q.1.cls ≠ "java/lang/invoke/VarHandle") ∧ Cond.instantiable q.1.cls q.2 ∈ tables_1 ∧ Cond.privateMethod q.1 ∈ tables_1 ∧ Cond.instanceMethod q.1 ∈ tables_1
theorem lw_p0 : lw_okq (⟨"HornTests$Scribe", "advance", "()V"⟩, 11) := ⟨⟨by decide +kernel, by decide +kernel⟩, List.mem_of_getElem? (i := 81) (by decide +kernel), List.mem_of_getElem? (i := 250) (by decide +kernel), List.mem_of_getElem? (i := 251) (by decide +kernel)⟩
theorem lw_p1 : lw_okq (⟨"HornTests$Scribe", "skip", "(CC)V"⟩, 11) := ⟨⟨by decide +kernel, by decide +kernel⟩, List.mem_of_getElem? (i := 81) (by decide +kernel), List.mem_of_getElem? (i := 254) (by decide +kernel), List.mem_of_getElem? (i := 255) (by decide +kernel)⟩
theorem lw_p2 : lw_okq (⟨"HornTests$Scribe", "takeNumber", "()V"⟩, 11) := ⟨⟨by decide +kernel, by decide +kernel⟩, List.mem_of_getElem? (i := 81) (by decide +kernel), List.mem_of_getElem? (i := 259) (by decide +kernel), List.mem_of_getElem? (i := 260) (by decide +kernel)⟩
theorem lw_p3 : lw_okq (⟨"HornTests$Scribe", "readLine", "()V"⟩, 11) := ⟨⟨by decide +kernel, by decide +kernel⟩, List.mem_of_getElem? (i := 81) (by decide +kernel), List.mem_of_getElem? (i := 263) (by decide +kernel), List.mem_of_getElem? (i := 264) (by decide +kernel)⟩
theorem lw_p4 : lw_okq (⟨"HornTests$Scribe", "wordRead", "()I"⟩, 11) := ⟨⟨by decide +kernel, by decide +kernel⟩, List.mem_of_getElem? (i := 81) (by decide +kernel), List.mem_of_getElem? (i := 267) (by decide +kernel), List.mem_of_getElem? (i := 268) (by decide +kernel)⟩
theorem lw_p5 : lw_okq (⟨"HornTests$Scribe", "isWord", "(Ljava/lang/String;)Z"⟩, 11) := ⟨⟨by decide +kernel, by decide +kernel⟩, List.mem_of_getElem? (i := 81) (by decide +kernel), List.mem_of_getElem? (i := 281) (by decide +kernel), List.mem_of_getElem? (i := 282) (by decide +kernel)⟩
theorem lw_p6 : lw_okq (⟨"HornTests$Scribe", "faultOfToken", "()I"⟩, 11) := ⟨⟨by decide +kernel, by decide +kernel⟩, List.mem_of_getElem? (i := 81) (by decide +kernel), List.mem_of_getElem? (i := 333) (by decide +kernel), List.mem_of_getElem? (i := 334) (by decide +kernel)⟩
theorem lw_p7 : lw_okq (⟨"HornTests$Scribe", "refuse", "(II)V"⟩, 11) := ⟨⟨by decide +kernel, by decide +kernel⟩, List.mem_of_getElem? (i := 81) (by decide +kernel), List.mem_of_getElem? (i := 337) (by decide +kernel), List.mem_of_getElem? (i := 338) (by decide +kernel)⟩
theorem lw_p8 : lw_okq (⟨"HornTests$Scribe", "readTest", "(I)V"⟩, 11) := ⟨⟨by decide +kernel, by decide +kernel⟩, List.mem_of_getElem? (i := 81) (by decide +kernel), List.mem_of_getElem? (i := 341) (by decide +kernel), List.mem_of_getElem? (i := 342) (by decide +kernel)⟩
theorem lw_p9 : lw_okq (⟨"HornTests$Scribe", "isNumberWithin", "(II)Z"⟩, 11) := ⟨⟨by decide +kernel, by decide +kernel⟩, List.mem_of_getElem? (i := 81) (by decide +kernel), List.mem_of_getElem? (i := 345) (by decide +kernel), List.mem_of_getElem? (i := 346) (by decide +kernel)⟩
theorem lw_p10 : lw_okq (⟨"HornTests$Scribe", "readOnce", "(I)V"⟩, 11) := ⟨⟨by decide +kernel, by decide +kernel⟩, List.mem_of_getElem? (i := 81) (by decide +kernel), List.mem_of_getElem? (i := 353) (by decide +kernel), List.mem_of_getElem? (i := 354) (by decide +kernel)⟩
theorem lw_p11 : lw_okq (⟨"HornTests$Scribe", "readPlan", "()V"⟩, 11) := ⟨⟨by decide +kernel, by decide +kernel⟩, List.mem_of_getElem? (i := 81) (by decide +kernel), List.mem_of_getElem? (i := 360) (by decide +kernel), List.mem_of_getElem? (i := 361) (by decide +kernel)⟩
theorem lw_p12 : lw_okq (⟨"HornTests$Scribe", "plansMissingTest", "()Z"⟩, 11) := ⟨⟨by decide +kernel, by decide +kernel⟩, List.mem_of_getElem? (i := 81) (by decide +kernel), List.mem_of_getElem? (i := 364) (by decide +kernel), List.mem_of_getElem? (i := 365) (by decide +kernel)⟩
theorem lw_p13 : lw_okq (⟨"HornTests$Evening", "sumOf", "([I)I"⟩, 9) := ⟨⟨by decide +kernel, by decide +kernel⟩, List.mem_of_getElem? (i := 24) (by decide +kernel), List.mem_of_getElem? (i := 400) (by decide +kernel), List.mem_of_getElem? (i := 401) (by decide +kernel)⟩
theorem lw_p14 : lw_okq (⟨"HornTests", "resize", "(II)I"⟩, 11) := ⟨⟨by decide +kernel, by decide +kernel⟩, List.mem_of_getElem? (i := 16) (by decide +kernel), List.mem_of_getElem? (i := 430) (by decide +kernel), List.mem_of_getElem? (i := 431) (by decide +kernel)⟩
theorem lw_p15 : lw_okq (⟨"HornTests", "bestRow", "(I)I"⟩, 11) := ⟨⟨by decide +kernel, by decide +kernel⟩, List.mem_of_getElem? (i := 16) (by decide +kernel), List.mem_of_getElem? (i := 513) (by decide +kernel), List.mem_of_getElem? (i := 514) (by decide +kernel)⟩
def lw_privs_1 : List (MethodName × Nat) := [(⟨"HornTests$Scribe", "advance", "()V"⟩, 11), (⟨"HornTests$Scribe", "skip", "(CC)V"⟩, 11), (⟨"HornTests$Scribe", "takeNumber", "()V"⟩, 11), (⟨"HornTests$Scribe", "readLine", "()V"⟩, 11), (⟨"HornTests$Scribe", "wordRead", "()I"⟩, 11), (⟨"HornTests$Scribe", "isWord", "(Ljava/lang/String;)Z"⟩, 11), (⟨"HornTests$Scribe", "faultOfToken", "()I"⟩, 11), (⟨"HornTests$Scribe", "refuse", "(II)V"⟩, 11), (⟨"HornTests$Scribe", "readTest", "(I)V"⟩, 11), (⟨"HornTests$Scribe", "isNumberWithin", "(II)Z"⟩, 11), (⟨"HornTests$Scribe", "readOnce", "(I)V"⟩, 11), (⟨"HornTests$Scribe", "readPlan", "()V"⟩, 11), (⟨"HornTests$Scribe", "plansMissingTest", "()Z"⟩, 11), (⟨"HornTests$Evening", "sumOf", "([I)I"⟩, 9), (⟨"HornTests", "resize", "(II)I"⟩, 11), (⟨"HornTests", "bestRow", "(I)I"⟩, 11)]
theorem lw_r1 : ∀ q ∈ lw_privs_1, lw_okq q := List.forall_mem_cons.mpr ⟨lw_p0, List.forall_mem_cons.mpr ⟨lw_p1, List.forall_mem_cons.mpr ⟨lw_p2, List.forall_mem_cons.mpr ⟨lw_p3, List.forall_mem_cons.mpr ⟨lw_p4, List.forall_mem_cons.mpr ⟨lw_p5, List.forall_mem_cons.mpr ⟨lw_p6, List.forall_mem_cons.mpr ⟨lw_p7, List.forall_mem_cons.mpr ⟨lw_p8, List.forall_mem_cons.mpr ⟨lw_p9, List.forall_mem_cons.mpr ⟨lw_p10, List.forall_mem_cons.mpr ⟨lw_p11, List.forall_mem_cons.mpr ⟨lw_p12, List.forall_mem_cons.mpr ⟨lw_p13, List.forall_mem_cons.mpr ⟨lw_p14, List.forall_mem_cons.mpr ⟨lw_p15, fun _ h => absurd h List.not_mem_nil⟩⟩⟩⟩⟩⟩⟩⟩⟩⟩⟩⟩⟩⟩⟩⟩
theorem lw_p16 : lw_okq (⟨"HornTests", "tryRow", "(II)V"⟩, 11) := ⟨⟨by decide +kernel, by decide +kernel⟩, List.mem_of_getElem? (i := 16) (by decide +kernel), List.mem_of_getElem? (i := 517) (by decide +kernel), List.mem_of_getElem? (i := 518) (by decide +kernel)⟩
theorem lw_p17 : lw_okq (⟨"HornTests", "actOfRow", "(III)I"⟩, 11) := ⟨⟨by decide +kernel, by decide +kernel⟩, List.mem_of_getElem? (i := 16) (by decide +kernel), List.mem_of_getElem? (i := 521) (by decide +kernel), List.mem_of_getElem? (i := 522) (by decide +kernel)⟩
theorem lw_p18 : lw_okq (⟨"HornTests", "laughsIfChanged", "(II)I"⟩, 11) := ⟨⟨by decide +kernel, by decide +kernel⟩, List.mem_of_getElem? (i := 16) (by decide +kernel), List.mem_of_getElem? (i := 545) (by decide +kernel), List.mem_of_getElem? (i := 546) (by decide +kernel)⟩
theorem lw_p19 : lw_okq (⟨"HornTests", "movedIfPlain", "(I)I"⟩, 11) := ⟨⟨by decide +kernel, by decide +kernel⟩, List.mem_of_getElem? (i := 16) (by decide +kernel), List.mem_of_getElem? (i := 553) (by decide +kernel), List.mem_of_getElem? (i := 554) (by decide +kernel)⟩
theorem lw_p20 : lw_okq (⟨"HornTests", "areOdds", "(IIII)Z"⟩, 11) := ⟨⟨by decide +kernel, by decide +kernel⟩, List.mem_of_getElem? (i := 16) (by decide +kernel), List.mem_of_getElem? (i := 561) (by decide +kernel), List.mem_of_getElem? (i := 562) (by decide +kernel)⟩
theorem lw_p21 : lw_okq (⟨"HornTests$Odds", "spreadOnce", "(II)V"⟩, 3) := ⟨⟨by decide +kernel, by decide +kernel⟩, List.mem_of_getElem? (i := 152) (by decide +kernel), List.mem_of_getElem? (i := 571) (by decide +kernel), List.mem_of_getElem? (i := 572) (by decide +kernel)⟩
theorem lw_p22 : lw_okq (⟨"HornTests", "imageAt", "(I)LHornTests$Evening;"⟩, 11) := ⟨⟨by decide +kernel, by decide +kernel⟩, List.mem_of_getElem? (i := 16) (by decide +kernel), List.mem_of_getElem? (i := 644) (by decide +kernel), List.mem_of_getElem? (i := 645) (by decide +kernel)⟩
theorem lw_p23 : lw_okq (⟨"HornTestsModel", "step", "()V"⟩, 25) := ⟨⟨by decide +kernel, by decide +kernel⟩, List.mem_of_getElem? (i := 705) (by decide +kernel), List.mem_of_getElem? (i := 803) (by decide +kernel), List.mem_of_getElem? (i := 804) (by decide +kernel)⟩
theorem lw_p24 : lw_okq (⟨"HornTestsModel", "byteAt", "(I)I"⟩, 25) := ⟨⟨by decide +kernel, by decide +kernel⟩, List.mem_of_getElem? (i := 705) (by decide +kernel), List.mem_of_getElem? (i := 807) (by decide +kernel), List.mem_of_getElem? (i := 808) (by decide +kernel)⟩
theorem lw_p25 : lw_okq (⟨"HornTestsModel", "fails", "(I)V"⟩, 25) := ⟨⟨by decide +kernel, by decide +kernel⟩, List.mem_of_getElem? (i := 705) (by decide +kernel), List.mem_of_getElem? (i := 815) (by decide +kernel), List.mem_of_getElem? (i := 816) (by decide +kernel)⟩
theorem lw_p26 : lw_okq (⟨"HornTestsModel", "readLine", "()V"⟩, 25) := ⟨⟨by decide +kernel, by decide +kernel⟩, List.mem_of_getElem? (i := 705) (by decide +kernel), List.mem_of_getElem? (i := 819) (by decide +kernel), List.mem_of_getElem? (i := 820) (by decide +kernel)⟩
theorem lw_p27 : lw_okq (⟨"HornTestsModel", "nameHere", "()I"⟩, 25) := ⟨⟨by decide +kernel, by decide +kernel⟩, List.mem_of_getElem? (i := 705) (by decide +kernel), List.mem_of_getElem? (i := 823) (by decide +kernel), List.mem_of_getElem? (i := 824) (by decide +kernel)⟩
theorem lw_p28 : lw_okq (⟨"HornTestsModel", "readTest", "(I)V"⟩, 25) := ⟨⟨by decide +kernel, by decide +kernel⟩, List.mem_of_getElem? (i := 705) (by decide +kernel), List.mem_of_getElem? (i := 828) (by decide +kernel), List.mem_of_getElem? (i := 829) (by decide +kernel)⟩
theorem lw_p29 : lw_okq (⟨"HornTestsModel", "number", "(II)I"⟩, 25) := ⟨⟨by decide +kernel, by decide +kernel⟩, List.mem_of_getElem? (i := 705) (by decide +kernel), List.mem_of_getElem? (i := 832) (by decide +kernel), List.mem_of_getElem? (i := 833) (by decide +kernel)⟩
theorem lw_p30 : lw_okq (⟨"HornTestsModel", "readPlan", "()V"⟩, 25) := ⟨⟨by decide +kernel, by decide +kernel⟩, List.mem_of_getElem? (i := 705) (by decide +kernel), List.mem_of_getElem? (i := 836) (by decide +kernel), List.mem_of_getElem? (i := 837) (by decide +kernel)⟩
theorem lw_p31 : lw_okq (⟨"HornTestsModel", "strengthOn", "(I)I"⟩, 25) := ⟨⟨by decide +kernel, by decide +kernel⟩, List.mem_of_getElem? (i := 705) (by decide +kernel), List.mem_of_getElem? (i := 848) (by decide +kernel), List.mem_of_getElem? (i := 849) (by decide +kernel)⟩
def lw_privs_2 : List (MethodName × Nat) := [(⟨"HornTests", "tryRow", "(II)V"⟩, 11), (⟨"HornTests", "actOfRow", "(III)I"⟩, 11), (⟨"HornTests", "laughsIfChanged", "(II)I"⟩, 11), (⟨"HornTests", "movedIfPlain", "(I)I"⟩, 11), (⟨"HornTests", "areOdds", "(IIII)Z"⟩, 11), (⟨"HornTests$Odds", "spreadOnce", "(II)V"⟩, 3), (⟨"HornTests", "imageAt", "(I)LHornTests$Evening;"⟩, 11), (⟨"HornTestsModel", "step", "()V"⟩, 25), (⟨"HornTestsModel", "byteAt", "(I)I"⟩, 25), (⟨"HornTestsModel", "fails", "(I)V"⟩, 25), (⟨"HornTestsModel", "readLine", "()V"⟩, 25), (⟨"HornTestsModel", "nameHere", "()I"⟩, 25), (⟨"HornTestsModel", "readTest", "(I)V"⟩, 25), (⟨"HornTestsModel", "number", "(II)I"⟩, 25), (⟨"HornTestsModel", "readPlan", "()V"⟩, 25), (⟨"HornTestsModel", "strengthOn", "(I)I"⟩, 25)]
theorem lw_r2 : ∀ q ∈ lw_privs_2, lw_okq q := List.forall_mem_cons.mpr ⟨lw_p16, List.forall_mem_cons.mpr ⟨lw_p17, List.forall_mem_cons.mpr ⟨lw_p18, List.forall_mem_cons.mpr ⟨lw_p19, List.forall_mem_cons.mpr ⟨lw_p20, List.forall_mem_cons.mpr ⟨lw_p21, List.forall_mem_cons.mpr ⟨lw_p22, List.forall_mem_cons.mpr ⟨lw_p23, List.forall_mem_cons.mpr ⟨lw_p24, List.forall_mem_cons.mpr ⟨lw_p25, List.forall_mem_cons.mpr ⟨lw_p26, List.forall_mem_cons.mpr ⟨lw_p27, List.forall_mem_cons.mpr ⟨lw_p28, List.forall_mem_cons.mpr ⟨lw_p29, List.forall_mem_cons.mpr ⟨lw_p30, List.forall_mem_cons.mpr ⟨lw_p31, fun _ h => absurd h List.not_mem_nil⟩⟩⟩⟩⟩⟩⟩⟩⟩⟩⟩⟩⟩⟩⟩⟩
theorem lw_p32 : lw_okq (⟨"HornTestsModel", "wonOn", "(I)I"⟩, 25) := ⟨⟨by decide +kernel, by decide +kernel⟩, List.mem_of_getElem? (i := 705) (by decide +kernel), List.mem_of_getElem? (i := 852) (by decide +kernel), List.mem_of_getElem? (i := 853) (by decide +kernel)⟩
theorem lw_p33 : lw_okq (⟨"HornTestsModel", "isWon", "(II)Z"⟩, 25) := ⟨⟨by decide +kernel, by decide +kernel⟩, List.mem_of_getElem? (i := 705) (by decide +kernel), List.mem_of_getElem? (i := 856) (by decide +kernel), List.mem_of_getElem? (i := 857) (by decide +kernel)⟩
theorem lw_p34 : lw_okq (⟨"HornTestsModel", "movedOn", "(I)I"⟩, 25) := ⟨⟨by decide +kernel, by decide +kernel⟩, List.mem_of_getElem? (i := 705) (by decide +kernel), List.mem_of_getElem? (i := 860) (by decide +kernel), List.mem_of_getElem? (i := 861) (by decide +kernel)⟩
theorem lw_p35 : lw_okq (⟨"HornTestsModel", "isTest", "(I)Z"⟩, 25) := ⟨⟨by decide +kernel, by decide +kernel⟩, List.mem_of_getElem? (i := 705) (by decide +kernel), List.mem_of_getElem? (i := 868) (by decide +kernel), List.mem_of_getElem? (i := 869) (by decide +kernel)⟩
theorem lw_p36 : lw_okq (⟨"HornTestsModel", "yieldOn", "(II)I"⟩, 25) := ⟨⟨by decide +kernel, by decide +kernel⟩, List.mem_of_getElem? (i := 705) (by decide +kernel), List.mem_of_getElem? (i := 873) (by decide +kernel), List.mem_of_getElem? (i := 874) (by decide +kernel)⟩
theorem lw_p37 : lw_okq (⟨"HornTestsModel", "puts", "(ZIII)I"⟩, 25) := ⟨⟨by decide +kernel, by decide +kernel⟩, List.mem_of_getElem? (i := 705) (by decide +kernel), List.mem_of_getElem? (i := 890) (by decide +kernel), List.mem_of_getElem? (i := 891) (by decide +kernel)⟩
theorem lw_p38 : lw_okq (⟨"HornTestsModel", "pulls", "(I)I"⟩, 25) := ⟨⟨by decide +kernel, by decide +kernel⟩, List.mem_of_getElem? (i := 705) (by decide +kernel), List.mem_of_getElem? (i := 915) (by decide +kernel), List.mem_of_getElem? (i := 916) (by decide +kernel)⟩
theorem lw_p39 : lw_okq (⟨"HornTestsModel", "canPull", "(II)Z"⟩, 25) := ⟨⟨by decide +kernel, by decide +kernel⟩, List.mem_of_getElem? (i := 705) (by decide +kernel), List.mem_of_getElem? (i := 919) (by decide +kernel), List.mem_of_getElem? (i := 920) (by decide +kernel)⟩
theorem lw_p40 : lw_okq (⟨"HornTestsModel", "pullsOn", "(IIZ)I"⟩, 25) := ⟨⟨by decide +kernel, by decide +kernel⟩, List.mem_of_getElem? (i := 705) (by decide +kernel), List.mem_of_getElem? (i := 923) (by decide +kernel), List.mem_of_getElem? (i := 924) (by decide +kernel)⟩
theorem lw_p41 : lw_okq (⟨"HornTestsModel", "restsOn", "(I)V"⟩, 25) := ⟨⟨by decide +kernel, by decide +kernel⟩, List.mem_of_getElem? (i := 705) (by decide +kernel), List.mem_of_getElem? (i := 931) (by decide +kernel), List.mem_of_getElem? (i := 932) (by decide +kernel)⟩
theorem lw_p42 : lw_okq (⟨"HornTestsModel", "planGoes", "(I)V"⟩, 25) := ⟨⟨by decide +kernel, by decide +kernel⟩, List.mem_of_getElem? (i := 705) (by decide +kernel), List.mem_of_getElem? (i := 939) (by decide +kernel), List.mem_of_getElem? (i := 940) (by decide +kernel)⟩
theorem lw_p43 : lw_okq (⟨"HornTestsModel", "copies", "(II)V"⟩, 25) := ⟨⟨by decide +kernel, by decide +kernel⟩, List.mem_of_getElem? (i := 705) (by decide +kernel), List.mem_of_getElem? (i := 943) (by decide +kernel), List.mem_of_getElem? (i := 944) (by decide +kernel)⟩
theorem lw_p44 : lw_okq (⟨"HornTestsModel", "actsOn", "(II)Z"⟩, 25) := ⟨⟨by decide +kernel, by decide +kernel⟩, List.mem_of_getElem? (i := 705) (by decide +kernel), List.mem_of_getElem? (i := 947) (by decide +kernel), List.mem_of_getElem? (i := 948) (by decide +kernel)⟩
theorem lw_p45 : lw_okq (⟨"HornTestsModel", "laughsMore", "()I"⟩, 25) := ⟨⟨by decide +kernel, by decide +kernel⟩, List.mem_of_getElem? (i := 705) (by decide +kernel), List.mem_of_getElem? (i := 951) (by decide +kernel), List.mem_of_getElem? (i := 952) (by decide +kernel)⟩
theorem lw_p46 : lw_okq (⟨"HornTestsModel", "aloneBy", "(I)I"⟩, 25) := ⟨⟨by decide +kernel, by decide +kernel⟩, List.mem_of_getElem? (i := 705) (by decide +kernel), List.mem_of_getElem? (i := 963) (by decide +kernel), List.mem_of_getElem? (i := 964) (by decide +kernel)⟩
theorem lw_p47 : lw_okq (⟨"HornTestsModel", "rowGoes", "(II)Z"⟩, 25) := ⟨⟨by decide +kernel, by decide +kernel⟩, List.mem_of_getElem? (i := 705) (by decide +kernel), List.mem_of_getElem? (i := 980) (by decide +kernel), List.mem_of_getElem? (i := 981) (by decide +kernel)⟩
def lw_privs_3 : List (MethodName × Nat) := [(⟨"HornTestsModel", "wonOn", "(I)I"⟩, 25), (⟨"HornTestsModel", "isWon", "(II)Z"⟩, 25), (⟨"HornTestsModel", "movedOn", "(I)I"⟩, 25), (⟨"HornTestsModel", "isTest", "(I)Z"⟩, 25), (⟨"HornTestsModel", "yieldOn", "(II)I"⟩, 25), (⟨"HornTestsModel", "puts", "(ZIII)I"⟩, 25), (⟨"HornTestsModel", "pulls", "(I)I"⟩, 25), (⟨"HornTestsModel", "canPull", "(II)Z"⟩, 25), (⟨"HornTestsModel", "pullsOn", "(IIZ)I"⟩, 25), (⟨"HornTestsModel", "restsOn", "(I)V"⟩, 25), (⟨"HornTestsModel", "planGoes", "(I)V"⟩, 25), (⟨"HornTestsModel", "copies", "(II)V"⟩, 25), (⟨"HornTestsModel", "actsOn", "(II)Z"⟩, 25), (⟨"HornTestsModel", "laughsMore", "()I"⟩, 25), (⟨"HornTestsModel", "aloneBy", "(I)I"⟩, 25), (⟨"HornTestsModel", "rowGoes", "(II)Z"⟩, 25)]
theorem lw_r3 : ∀ q ∈ lw_privs_3, lw_okq q := List.forall_mem_cons.mpr ⟨lw_p32, List.forall_mem_cons.mpr ⟨lw_p33, List.forall_mem_cons.mpr ⟨lw_p34, List.forall_mem_cons.mpr ⟨lw_p35, List.forall_mem_cons.mpr ⟨lw_p36, List.forall_mem_cons.mpr ⟨lw_p37, List.forall_mem_cons.mpr ⟨lw_p38, List.forall_mem_cons.mpr ⟨lw_p39, List.forall_mem_cons.mpr ⟨lw_p40, List.forall_mem_cons.mpr ⟨lw_p41, List.forall_mem_cons.mpr ⟨lw_p42, List.forall_mem_cons.mpr ⟨lw_p43, List.forall_mem_cons.mpr ⟨lw_p44, List.forall_mem_cons.mpr ⟨lw_p45, List.forall_mem_cons.mpr ⟨lw_p46, List.forall_mem_cons.mpr ⟨lw_p47, fun _ h => absurd h List.not_mem_nil⟩⟩⟩⟩⟩⟩⟩⟩⟩⟩⟩⟩⟩⟩⟩⟩
theorem lw_p48 : lw_okq (⟨"HornTestsModel", "isAsked", "(IIII)Z"⟩, 25) := ⟨⟨by decide +kernel, by decide +kernel⟩, List.mem_of_getElem? (i := 705) (by decide +kernel), List.mem_of_getElem? (i := 1006) (by decide +kernel), List.mem_of_getElem? (i := 1007) (by decide +kernel)⟩
theorem lw_p49 : lw_okq (⟨"HornTestsModel", "bySlips", "(IIIZI)J"⟩, 25) := ⟨⟨by decide +kernel, by decide +kernel⟩, List.mem_of_getElem? (i := 705) (by decide +kernel), List.mem_of_getElem? (i := 1011) (by decide +kernel), List.mem_of_getElem? (i := 1012) (by decide +kernel)⟩
theorem lw_p50 : lw_okq (⟨"HornTestsModel", "kindsOf", "(I)I"⟩, 25) := ⟨⟨by decide +kernel, by decide +kernel⟩, List.mem_of_getElem? (i := 705) (by decide +kernel), List.mem_of_getElem? (i := 1035) (by decide +kernel), List.mem_of_getElem? (i := 1036) (by decide +kernel)⟩
def lw_privs_4 : List (MethodName × Nat) := [(⟨"HornTestsModel", "isAsked", "(IIII)Z"⟩, 25), (⟨"HornTestsModel", "bySlips", "(IIIZI)J"⟩, 25), (⟨"HornTestsModel", "kindsOf", "(I)I"⟩, 25)]
theorem lw_r4 : ∀ q ∈ lw_privs_4, lw_okq q := List.forall_mem_cons.mpr ⟨lw_p48, List.forall_mem_cons.mpr ⟨lw_p49, List.forall_mem_cons.mpr ⟨lw_p50, fun _ h => absurd h List.not_mem_nil⟩⟩⟩
def lw_privs : List (MethodName × Nat) := lw_privs_1 ++ (lw_privs_2 ++ (lw_privs_3 ++ (lw_privs_4)))
def lw_tbl : List Cond := k2_sels lw_privs ++ tables_1
theorem lw_privs_ok : ∀ q ∈ lw_privs, lw_okq q := by
  show ∀ q ∈ lw_privs_1 ++ (lw_privs_2 ++ (lw_privs_3 ++ (lw_privs_4))), lw_okq q
  exact List.forall_mem_append.mpr ⟨lw_r1, List.forall_mem_append.mpr ⟨lw_r2, List.forall_mem_append.mpr ⟨lw_r3, lw_r4⟩⟩⟩
def RX0 : String := "HornTests$Evening"
def TX0 : u_T := fun k => match k with
  | 0 => ("HornTests$Evening", "tests", "I", false)
  | 1 => ("HornTests$Evening", "strength", "I", false)
  | 2 => ("HornTests$Evening", "laughs", "I", false)
  | 3 => ("HornTests$Evening", "acts", "I", false)
  | 4 => ("HornTests$Evening", "kind", "[I", true)
  | 5 => ("HornTests$Evening", "size", "[I", true)
  | 6 => ("HornTests$Evening", "moved", "[I", true)
  | 7 => ("HornTests$Evening", "pulled", "[I", true)
  | _ => ("HornTests$Evening", "planned", "[I", true)
def tyX0 : Nat → FieldType := fun k => match k with
  | 0 => .int
  | 1 => .int
  | 2 => .int
  | 3 => .int
  | 4 => .array .int
  | 5 => .array .int
  | 6 => .array .int
  | 7 => .array .int
  | _ => .array .int
theorem nmX0 : ∀ a, a < 9 → ∀ b, b < 9 → a ≠ b → (TX0 a).2.1 ≠ (TX0 b).2.1 := by decide +kernel
theorem tyX0_ok : ∀ k, k < 9 → parseFieldDescriptor (TX0 k).2.2.1 = some (tyX0 k) := by decide +kernel
abbrev cX0_init : ByteArray := prog_2_method_1_code
def yX0_init : MethodName := ⟨RX0, "<init>", "()V"⟩
abbrev cX0_clear : ByteArray := prog_2_method_2_code
def yX0_clear : MethodName := ⟨RX0, "clear", "()V"⟩
abbrev cX0_become : ByteArray := prog_2_method_3_code
def yX0_become : MethodName := ⟨RX0, "become", "(LHornTests$Evening;)V"⟩
abbrev cX0_has : ByteArray := prog_2_method_4_code
def yX0_has : MethodName := ⟨RX0, "has", "(I)Z"⟩
abbrev cX0_addTest : ByteArray := prog_2_method_5_code
def yX0_addTest : MethodName := ⟨RX0, "addTest", "(II)V"⟩
abbrev cX0_isWon : ByteArray := prog_2_method_6_code
def yX0_isWon : MethodName := ⟨RX0, "isWon", "(I)Z"⟩
abbrev cX0_wonBits : ByteArray := prog_2_method_7_code
def yX0_wonBits : MethodName := ⟨RX0, "wonBits", "()I"⟩
abbrev cX0_wonCount : ByteArray := prog_2_method_8_code
def yX0_wonCount : MethodName := ⟨RX0, "wonCount", "()I"⟩
abbrev cX0_allMoved : ByteArray := prog_2_method_9_code
def yX0_allMoved : MethodName := ⟨RX0, "allMoved", "()I"⟩
abbrev cX0_allSizes : ByteArray := prog_2_method_10_code
def yX0_allSizes : MethodName := ⟨RX0, "allSizes", "()I"⟩
abbrev cX0_allPulled : ByteArray := prog_2_method_11_code
def yX0_allPulled : MethodName := ⟨RX0, "allPulled", "()I"⟩
abbrev cX0_sumOf : ByteArray := prog_2_method_12_code
def yX0_sumOf : MethodName := ⟨RX0, "sumOf", "([I)I"⟩
abbrev cX0_yieldOf : ByteArray := prog_2_method_13_code
def yX0_yieldOf : MethodName := ⟨RX0, "yieldOf", "(I)I"⟩
abbrev cX0_canPull : ByteArray := prog_2_method_14_code
def yX0_canPull : MethodName := ⟨RX0, "canPull", "(I)Z"⟩
abbrev cX0_pullAt : ByteArray := prog_2_method_15_code
def yX0_pullAt : MethodName := ⟨RX0, "pullAt", "(I)I"⟩
abbrev cX0_restOnce : ByteArray := prog_2_method_16_code
def yX0_restOnce : MethodName := ⟨RX0, "restOnce", "()V"⟩
abbrev cX0_perform : ByteArray := prog_2_method_17_code
def yX0_perform : MethodName := ⟨RX0, "perform", "(I)Z"⟩
abbrev cX0_runPlan : ByteArray := prog_2_method_18_code
def yX0_runPlan : MethodName := ⟨RX0, "runPlan", "()I"⟩
abbrev cX0_pullsAlone : ByteArray := prog_2_method_19_code
def yX0_pullsAlone : MethodName := ⟨RX0, "pullsAlone", "(III)I"⟩
def RX1 : String := "HornTests$Odds"
def TX1 : u_T := fun k => match k with
  | 0 => ("HornTests$Odds", "ways", "[J", true)
  | 1 => ("HornTests$Odds", "allWays", "J", false)
  | _ => ("HornTests$Odds", "top", "I", false)
def tyX1 : Nat → FieldType := fun k => match k with
  | 0 => .array .long
  | 1 => .long
  | _ => .int
theorem nmX1 : ∀ a, a < 3 → ∀ b, b < 3 → a ≠ b → (TX1 a).2.1 ≠ (TX1 b).2.1 := by decide +kernel
theorem tyX1_ok : ∀ k, k < 3 → parseFieldDescriptor (TX1 k).2.2.1 = some (tyX1 k) := by decide +kernel
abbrev cX1_init : ByteArray := prog_3_method_1_code
def yX1_init : MethodName := ⟨RX1, "<init>", "()V"⟩
abbrev cX1_spread : ByteArray := prog_3_method_2_code
def yX1_spread : MethodName := ⟨RX1, "spread", "(LHornTests$Evening;III)V"⟩
abbrev cX1_spreadOnce : ByteArray := prog_3_method_3_code
def yX1_spreadOnce : MethodName := ⟨RX1, "spreadOnce", "(II)V"⟩
abbrev cX1_waysWon : ByteArray := prog_3_method_4_code
def yX1_waysWon : MethodName := ⟨RX1, "waysWon", "()J"⟩
abbrev cX1_movedInAllWays : ByteArray := prog_3_method_5_code
def yX1_movedInAllWays : MethodName := ⟨RX1, "movedInAllWays", "()J"⟩
abbrev cX1_lowest : ByteArray := prog_3_method_6_code
def yX1_lowest : MethodName := ⟨RX1, "lowest", "(JI)J"⟩
abbrev cX1_commonDivisor : ByteArray := prog_3_method_7_code
def yX1_commonDivisor : MethodName := ⟨RX1, "commonDivisor", "(JJ)J"⟩
def RX2 : String := "HornTests$Scribe"
def TX2 : u_T := fun k => match k with
  | 0 => ("HornTests$Scribe", "bytes", "[I", true)
  | 1 => ("HornTests$Scribe", "length", "I", false)
  | 2 => ("HornTests$Scribe", "draft", "LHornTests$Evening;", true)
  | 3 => ("HornTests$Scribe", "told", "I", false)
  | 4 => ("HornTests$Scribe", "lines", "I", false)
  | 5 => ("HornTests$Scribe", "fault", "I", false)
  | 6 => ("HornTests$Scribe", "place", "I", false)
  | 7 => ("HornTests$Scribe", "at", "I", false)
  | 8 => ("HornTests$Scribe", "token", "I", false)
  | 9 => ("HornTests$Scribe", "from", "I", false)
  | _ => ("HornTests$Scribe", "number", "I", false)
def tyX2 : Nat → FieldType := fun k => match k with
  | 0 => .array .int
  | 1 => .int
  | 2 => .object "HornTests$Evening"
  | 3 => .int
  | 4 => .int
  | 5 => .int
  | 6 => .int
  | 7 => .int
  | 8 => .int
  | 9 => .int
  | _ => .int
theorem nmX2 : ∀ a, a < 11 → ∀ b, b < 11 → a ≠ b → (TX2 a).2.1 ≠ (TX2 b).2.1 := by decide +kernel
theorem tyX2_ok : ∀ k, k < 11 → parseFieldDescriptor (TX2 k).2.2.1 = some (tyX2 k) := by decide +kernel
abbrev cX2_init : ByteArray := prog_4_method_1_code
def yX2_init : MethodName := ⟨RX2, "<init>", "()V"⟩
abbrev cX2_write : ByteArray := prog_4_method_2_code
def yX2_write : MethodName := ⟨RX2, "write", "(I)Z"⟩
abbrev cX2_readAll : ByteArray := prog_4_method_3_code
def yX2_readAll : MethodName := ⟨RX2, "readAll", "()V"⟩
abbrev cX2_readLine : ByteArray := prog_4_method_4_code
def yX2_readLine : MethodName := ⟨RX2, "readLine", "()V"⟩
abbrev cX2_readTest : ByteArray := prog_4_method_5_code
def yX2_readTest : MethodName := ⟨RX2, "readTest", "(I)V"⟩
abbrev cX2_readOnce : ByteArray := prog_4_method_6_code
def yX2_readOnce : MethodName := ⟨RX2, "readOnce", "(I)V"⟩
abbrev cX2_readPlan : ByteArray := prog_4_method_7_code
def yX2_readPlan : MethodName := ⟨RX2, "readPlan", "()V"⟩
abbrev cX2_plansMissingTest : ByteArray := prog_4_method_8_code
def yX2_plansMissingTest : MethodName := ⟨RX2, "plansMissingTest", "()Z"⟩
abbrev cX2_isNumberWithin : ByteArray := prog_4_method_9_code
def yX2_isNumberWithin : MethodName := ⟨RX2, "isNumberWithin", "(II)Z"⟩
abbrev cX2_faultOfToken : ByteArray := prog_4_method_10_code
def yX2_faultOfToken : MethodName := ⟨RX2, "faultOfToken", "()I"⟩
abbrev cX2_refuse : ByteArray := prog_4_method_11_code
def yX2_refuse : MethodName := ⟨RX2, "refuse", "(II)V"⟩
abbrev cX2_advance : ByteArray := prog_4_method_12_code
def yX2_advance : MethodName := ⟨RX2, "advance", "()V"⟩
abbrev cX2_skip : ByteArray := prog_4_method_13_code
def yX2_skip : MethodName := ⟨RX2, "skip", "(CC)V"⟩
abbrev cX2_takeNumber : ByteArray := prog_4_method_14_code
def yX2_takeNumber : MethodName := ⟨RX2, "takeNumber", "()V"⟩
abbrev cX2_wordRead : ByteArray := prog_4_method_15_code
def yX2_wordRead : MethodName := ⟨RX2, "wordRead", "()I"⟩
abbrev cX2_isWord : ByteArray := prog_4_method_16_code
def yX2_isWord : MethodName := ⟨RX2, "isWord", "(Ljava/lang/String;)Z"⟩
abbrev cX2_spelling : ByteArray := prog_4_method_17_code
def yX2_spelling : MethodName := ⟨RX2, "spelling", "(I)Ljava/lang/String;"⟩
def RX3 : String := "HornTests$Sheets"
def TX3 : u_T := fun k => match k with
  | 0 => ("HornTests$Sheets", "lanes", "[I", true)
  | 1 => ("HornTests$Sheets", "length", "[I", true)
  | _ => ("HornTests$Sheets", "cells", "[[I", true)
def tyX3 : Nat → FieldType := fun k => match k with
  | 0 => .array .int
  | 1 => .array .int
  | _ => .array (.array .int)
theorem nmX3 : ∀ a, a < 3 → ∀ b, b < 3 → a ≠ b → (TX3 a).2.1 ≠ (TX3 b).2.1 := by decide +kernel
theorem tyX3_ok : ∀ k, k < 3 → parseFieldDescriptor (TX3 k).2.2.1 = some (tyX3 k) := by decide +kernel
abbrev cX3_init : ByteArray := prog_5_method_1_code
def yX3_init : MethodName := ⟨RX3, "<init>", "()V"⟩
abbrev cX3_has : ByteArray := prog_5_method_2_code
def yX3_has : MethodName := ⟨RX3, "has", "(I)Z"⟩
abbrev cX3_isNothing : ByteArray := prog_5_method_3_code
def yX3_isNothing : MethodName := ⟨RX3, "isNothing", "(I)Z"⟩
abbrev cX3_renew : ByteArray := prog_5_method_4_code
def yX3_renew : MethodName := ⟨RX3, "renew", "(III)V"⟩
abbrev cX3_faultOfCell : ByteArray := prog_5_method_5_code
def yX3_faultOfCell : MethodName := ⟨RX3, "faultOfCell", "(II)I"⟩
abbrev cX3_faultOfReading : ByteArray := prog_5_method_6_code
def yX3_faultOfReading : MethodName := ⟨RX3, "faultOfReading", "(III)I"⟩
abbrev cX3_put : ByteArray := prog_5_method_7_code
def yX3_put : MethodName := ⟨RX3, "put", "(III)V"⟩
def RX4 : String := "HornTests$Sightings"
def TX4 : u_T := fun k => match k with
  | 0 => ("HornTests$Sightings", "known", "I", false)
  | 1 => ("HornTests$Sightings", "test", "[I", true)
  | 2 => ("HornTests$Sightings", "strength", "[I", true)
  | 3 => ("HornTests$Sightings", "before", "[I", true)
  | _ => ("HornTests$Sightings", "shown", "[I", true)
def tyX4 : Nat → FieldType := fun k => match k with
  | 0 => .int
  | 1 => .array .int
  | 2 => .array .int
  | 3 => .array .int
  | _ => .array .int
theorem nmX4 : ∀ a, a < 5 → ∀ b, b < 5 → a ≠ b → (TX4 a).2.1 ≠ (TX4 b).2.1 := by decide +kernel
theorem tyX4_ok : ∀ k, k < 5 → parseFieldDescriptor (TX4 k).2.2.1 = some (tyX4 k) := by decide +kernel
abbrev cX4_init : ByteArray := prog_6_method_1_code
def yX4_init : MethodName := ⟨RX4, "<init>", "()V"⟩
abbrev cX4_add : ByteArray := prog_6_method_2_code
def yX4_add : MethodName := ⟨RX4, "add", "(IIII)Z"⟩
abbrev cX4_kindsOf : ByteArray := prog_6_method_3_code
def yX4_kindsOf : MethodName := ⟨RX4, "kindsOf", "(I)I"⟩
def RX5 : String := "HornTests"
def TX5 : u_T := fun k => match k with
  | 0 => ("HornTests", "now", "LHornTests$Evening;", true)
  | 1 => ("HornTests", "trial", "LHornTests$Evening;", true)
  | 2 => ("HornTests", "firstImage", "LHornTests$Evening;", true)
  | 3 => ("HornTests", "secondImage", "LHornTests$Evening;", true)
  | 4 => ("HornTests", "kept", "[Z", true)
  | 5 => ("HornTests", "scribe", "LHornTests$Scribe;", true)
  | 6 => ("HornTests", "sightings", "LHornTests$Sightings;", true)
  | 7 => ("HornTests", "odds", "LHornTests$Odds;", true)
  | 8 => ("HornTests", "sheets", "LHornTests$Sheets;", true)
  | 9 => ("HornTests", "textFault", "I", false)
  | _ => ("HornTests", "readFault", "I", false)
def tyX5 : Nat → FieldType := fun k => match k with
  | 0 => .object "HornTests$Evening"
  | 1 => .object "HornTests$Evening"
  | 2 => .object "HornTests$Evening"
  | 3 => .object "HornTests$Evening"
  | 4 => .array .boolean
  | 5 => .object "HornTests$Scribe"
  | 6 => .object "HornTests$Sightings"
  | 7 => .object "HornTests$Odds"
  | 8 => .object "HornTests$Sheets"
  | 9 => .int
  | _ => .int
theorem nmX5 : ∀ a, a < 11 → ∀ b, b < 11 → a ≠ b → (TX5 a).2.1 ≠ (TX5 b).2.1 := by decide +kernel
theorem tyX5_ok : ∀ k, k < 11 → parseFieldDescriptor (TX5 k).2.2.1 = some (tyX5 k) := by decide +kernel
abbrev cX5_init : ByteArray := prog_1_method_1_code
def yX5_init : MethodName := ⟨RX5, "<init>", "()V"⟩
abbrev cX5_feed : ByteArray := prog_1_method_2_code
def yX5_feed : MethodName := ⟨RX5, "feed", "(I)I"⟩
abbrev cX5_end : ByteArray := prog_1_method_3_code
def yX5_end : MethodName := ⟨RX5, "end", "(I)I"⟩
abbrev cX5_text : ByteArray := prog_1_method_4_code
def yX5_text : MethodName := ⟨RX5, "text", "()I"⟩
abbrev cX5_fault : ByteArray := prog_1_method_5_code
def yX5_fault : MethodName := ⟨RX5, "fault", "()I"⟩
abbrev cX5_rule : ByteArray := prog_1_method_6_code
def yX5_rule : MethodName := ⟨RX5, "rule", "(I)I"⟩
abbrev cX5_test : ByteArray := prog_1_method_7_code
def yX5_test : MethodName := ⟨RX5, "test", "(II)I"⟩
abbrev cX5_act : ByteArray := prog_1_method_8_code
def yX5_act : MethodName := ⟨RX5, "act", "(I)I"⟩
abbrev cX5_alter : ByteArray := prog_1_method_9_code
def yX5_alter : MethodName := ⟨RX5, "alter", "(III)I"⟩
abbrev cX5_resize : ByteArray := prog_1_method_10_code
def yX5_resize : MethodName := ⟨RX5, "resize", "(II)I"⟩
abbrev cX5_replace : ByteArray := prog_1_method_11_code
def yX5_replace : MethodName := ⟨RX5, "replace", "([IIIII)I"⟩
abbrev cX5_strong : ByteArray := prog_1_method_12_code
def yX5_strong : MethodName := ⟨RX5, "strong", "(I)I"⟩
abbrev cX5_fill : ByteArray := prog_1_method_13_code
def yX5_fill : MethodName := ⟨RX5, "fill", "(I)I"⟩
abbrev cX5_plan : ByteArray := prog_1_method_14_code
def yX5_plan : MethodName := ⟨RX5, "plan", "(I)I"⟩
abbrev cX5_cut : ByteArray := prog_1_method_15_code
def yX5_cut : MethodName := ⟨RX5, "cut", "(I)I"⟩
abbrev cX5_pull : ByteArray := prog_1_method_16_code
def yX5_pull : MethodName := ⟨RX5, "pull", "(I)I"⟩
abbrev cX5_rest : ByteArray := prog_1_method_17_code
def yX5_rest : MethodName := ⟨RX5, "rest", "(I)I"⟩
abbrev cX5_runs : ByteArray := prog_1_method_18_code
def yX5_runs : MethodName := ⟨RX5, "runs", "(I)I"⟩
abbrev cX5_ahead : ByteArray := prog_1_method_19_code
def yX5_ahead : MethodName := ⟨RX5, "ahead", "(I)I"⟩
abbrev cX5_need : ByteArray := prog_1_method_20_code
def yX5_need : MethodName := ⟨RX5, "need", "(I)I"⟩
abbrev cX5_least : ByteArray := prog_1_method_21_code
def yX5_least : MethodName := ⟨RX5, "least", "(II)I"⟩
abbrev cX5_isWonBy : ByteArray := prog_1_method_22_code
def yX5_isWonBy : MethodName := ⟨RX5, "isWonBy", "(II)Z"⟩
abbrev cX5_best : ByteArray := prog_1_method_23_code
def yX5_best : MethodName := ⟨RX5, "best", "(II)I"⟩
abbrev cX5_bestRow : ByteArray := prog_1_method_24_code
def yX5_bestRow : MethodName := ⟨RX5, "bestRow", "(I)I"⟩
abbrev cX5_tryRow : ByteArray := prog_1_method_25_code
def yX5_tryRow : MethodName := ⟨RX5, "tryRow", "(II)V"⟩
abbrev cX5_actOfRow : ByteArray := prog_1_method_26_code
def yX5_actOfRow : MethodName := ⟨RX5, "actOfRow", "(III)I"⟩
abbrev cX5_hide : ByteArray := prog_1_method_27_code
def yX5_hide : MethodName := ⟨RX5, "hide", "(II)I"⟩
abbrev cX5_swap : ByteArray := prog_1_method_28_code
def yX5_swap : MethodName := ⟨RX5, "swap", "(I)I"⟩
abbrev cX5_laughsIfChanged : ByteArray := prog_1_method_29_code
def yX5_laughsIfChanged : MethodName := ⟨RX5, "laughsIfChanged", "(II)I"⟩
abbrev cX5_unmask : ByteArray := prog_1_method_30_code
def yX5_unmask : MethodName := ⟨RX5, "unmask", "(I)I"⟩
abbrev cX5_movedIfPlain : ByteArray := prog_1_method_31_code
def yX5_movedIfPlain : MethodName := ⟨RX5, "movedIfPlain", "(I)I"⟩
abbrev cX5_luck : ByteArray := prog_1_method_32_code
def yX5_luck : MethodName := ⟨RX5, "luck", "(IIII)J"⟩
abbrev cX5_mean : ByteArray := prog_1_method_33_code
def yX5_mean : MethodName := ⟨RX5, "mean", "(IIII)J"⟩
abbrev cX5_areOdds : ByteArray := prog_1_method_34_code
def yX5_areOdds : MethodName := ⟨RX5, "areOdds", "(IIII)Z"⟩
abbrev cX5_see : ByteArray := prog_1_method_35_code
def yX5_see : MethodName := ⟨RX5, "see", "(IIII)I"⟩
abbrev cX5_forget : ByteArray := prog_1_method_36_code
def yX5_forget : MethodName := ⟨RX5, "forget", "(I)I"⟩
abbrev cX5_kinds : ByteArray := prog_1_method_37_code
def yX5_kinds : MethodName := ⟨RX5, "kinds", "(I)I"⟩
abbrev cX5_ask : ByteArray := prog_1_method_38_code
def yX5_ask : MethodName := ⟨RX5, "ask", "(II)I"⟩
abbrev cX5_leftAtWorst : ByteArray := prog_1_method_39_code
def yX5_leftAtWorst : MethodName := ⟨RX5, "leftAtWorst", "(III)I"⟩
abbrev cX5_arms : ByteArray := prog_1_method_40_code
def yX5_arms : MethodName := ⟨RX5, "arms", "(IIII)I"⟩
abbrev cX5_drift : ByteArray := prog_1_method_41_code
def yX5_drift : MethodName := ⟨RX5, "drift", "(III)I"⟩
abbrev cX5_keep : ByteArray := prog_1_method_42_code
def yX5_keep : MethodName := ⟨RX5, "keep", "(I)I"⟩
abbrev cX5_back : ByteArray := prog_1_method_43_code
def yX5_back : MethodName := ⟨RX5, "back", "(I)I"⟩
abbrev cX5_imageAt : ByteArray := prog_1_method_44_code
def yX5_imageAt : MethodName := ⟨RX5, "imageAt", "(I)LHornTests$Evening;"⟩
abbrev cX5_sheet : ByteArray := prog_1_method_45_code
def yX5_sheet : MethodName := ⟨RX5, "sheet", "(III)I"⟩
abbrev cX5_lay : ByteArray := prog_1_method_46_code
def yX5_lay : MethodName := ⟨RX5, "lay", "(III)I"⟩
abbrev cX5_read : ByteArray := prog_1_method_47_code
def yX5_read : MethodName := ⟨RX5, "read", "(IIII)I"⟩
abbrev cX5_torn : ByteArray := prog_1_method_48_code
def yX5_torn : MethodName := ⟨RX5, "torn", "()I"⟩
abbrev cX5_count : ByteArray := prog_1_method_49_code
def yX5_count : MethodName := ⟨RX5, "count", "(I)I"⟩
abbrev cX5_within : ByteArray := prog_1_method_50_code
def yX5_within : MethodName := ⟨RX5, "within", "(III)Z"⟩
abbrev cX5_hasBit : ByteArray := prog_1_method_51_code
def yX5_hasBit : MethodName := ⟨RX5, "hasBit", "(II)Z"⟩
abbrev cX5_yieldBy : ByteArray := prog_1_method_52_code
def yX5_yieldBy : MethodName := ⟨RX5, "yieldBy", "(III)I"⟩
abbrev cX5_kindsThatYield : ByteArray := prog_1_method_53_code
def yX5_kindsThatYield : MethodName := ⟨RX5, "kindsThatYield", "(III)I"⟩
def RX6 : String := "HornTestsModel"
def TX6 : u_T := fun k => match k with
  | 0 => ("HornTestsModel", "state", "[I", true)
  | 1 => ("HornTestsModel", "testMany", "I", false)
  | 2 => ("HornTestsModel", "readPage", "[I", true)
  | 3 => ("HornTestsModel", "readTests", "I", false)
  | 4 => ("HornTestsModel", "toldOnce", "I", false)
  | 5 => ("HornTestsModel", "high", "I", false)
  | 6 => ("HornTestsModel", "tape", "[I", true)
  | 7 => ("HornTestsModel", "taped", "I", false)
  | 8 => ("HornTestsModel", "fault", "I", false)
  | 9 => ("HornTestsModel", "broken", "I", false)
  | 10 => ("HornTestsModel", "brokenAt", "I", false)
  | 11 => ("HornTestsModel", "spot", "I", false)
  | 12 => ("HornTestsModel", "here", "I", false)
  | 13 => ("HornTestsModel", "token", "I", false)
  | 14 => ("HornTestsModel", "value", "I", false)
  | 15 => ("HornTestsModel", "cuts", "[I", true)
  | 16 => ("HornTestsModel", "letters", "[I", true)
  | 17 => ("HornTestsModel", "firstNot", "I", false)
  | 18 => ("HornTestsModel", "seen", "[I", true)
  | 19 => ("HornTestsModel", "seenMany", "I", false)
  | 20 => ("HornTestsModel", "isKept", "[Z", true)
  | 21 => ("HornTestsModel", "lanes", "[I", true)
  | 22 => ("HornTestsModel", "lengths", "[I", true)
  | 23 => ("HornTestsModel", "cells", "[I", true)
  | _ => ("HornTestsModel", "torn", "I", false)
def tyX6 : Nat → FieldType := fun k => match k with
  | 0 => .array .int
  | 1 => .int
  | 2 => .array .int
  | 3 => .int
  | 4 => .int
  | 5 => .int
  | 6 => .array .int
  | 7 => .int
  | 8 => .int
  | 9 => .int
  | 10 => .int
  | 11 => .int
  | 12 => .int
  | 13 => .int
  | 14 => .int
  | 15 => .array .int
  | 16 => .array .int
  | 17 => .int
  | 18 => .array .int
  | 19 => .int
  | 20 => .array .boolean
  | 21 => .array .int
  | 22 => .array .int
  | 23 => .array .int
  | _ => .int
theorem nmX6 : ∀ a, a < 25 → ∀ b, b < 25 → a ≠ b → (TX6 a).2.1 ≠ (TX6 b).2.1 := by decide +kernel
theorem tyX6_ok : ∀ k, k < 25 → parseFieldDescriptor (TX6 k).2.2.1 = some (tyX6 k) := by decide +kernel
abbrev cX6_init : ByteArray := prog_8_method_1_code
def yX6_init : MethodName := ⟨RX6, "<init>", "()V"⟩
abbrev cX6_in : ByteArray := prog_8_method_3_code
def yX6_in : MethodName := ⟨RX6, "in", "(JJJ)Z"⟩
abbrev cX6_feed : ByteArray := prog_8_method_4_code
def yX6_feed : MethodName := ⟨RX6, "feed", "(I)I"⟩
abbrev cX6_end : ByteArray := prog_8_method_5_code
def yX6_end : MethodName := ⟨RX6, "end", "(I)I"⟩
abbrev cX6_byteAt : ByteArray := prog_8_method_6_code
def yX6_byteAt : MethodName := ⟨RX6, "byteAt", "(I)I"⟩
abbrev cX6_fails : ByteArray := prog_8_method_7_code
def yX6_fails : MethodName := ⟨RX6, "fails", "(I)V"⟩
abbrev cX6_nameHere : ByteArray := prog_8_method_8_code
def yX6_nameHere : MethodName := ⟨RX6, "nameHere", "()I"⟩
abbrev cX6_step : ByteArray := prog_8_method_9_code
def yX6_step : MethodName := ⟨RX6, "step", "()V"⟩
abbrev cX6_number : ByteArray := prog_8_method_10_code
def yX6_number : MethodName := ⟨RX6, "number", "(II)I"⟩
abbrev cX6_readPlan : ByteArray := prog_8_method_11_code
def yX6_readPlan : MethodName := ⟨RX6, "readPlan", "()V"⟩
abbrev cX6_readTest : ByteArray := prog_8_method_12_code
def yX6_readTest : MethodName := ⟨RX6, "readTest", "(I)V"⟩
abbrev cX6_readLine : ByteArray := prog_8_method_13_code
def yX6_readLine : MethodName := ⟨RX6, "readLine", "()V"⟩
abbrev cX6_text : ByteArray := prog_8_method_14_code
def yX6_text : MethodName := ⟨RX6, "text", "()I"⟩
abbrev cX6_fault : ByteArray := prog_8_method_15_code
def yX6_fault : MethodName := ⟨RX6, "fault", "()I"⟩
abbrev cX6_isTest : ByteArray := prog_8_method_16_code
def yX6_isTest : MethodName := ⟨RX6, "isTest", "(I)Z"⟩
abbrev cX6_yieldOf : ByteArray := prog_8_method_17_code
def yX6_yieldOf : MethodName := ⟨RX6, "yieldOf", "(III)I"⟩
abbrev cX6_strengthOn : ByteArray := prog_8_method_18_code
def yX6_strengthOn : MethodName := ⟨RX6, "strengthOn", "(I)I"⟩
abbrev cX6_yieldOn : ByteArray := prog_8_method_19_code
def yX6_yieldOn : MethodName := ⟨RX6, "yieldOn", "(II)I"⟩
abbrev cX6_isWon : ByteArray := prog_8_method_20_code
def yX6_isWon : MethodName := ⟨RX6, "isWon", "(II)Z"⟩
abbrev cX6_wonOn : ByteArray := prog_8_method_21_code
def yX6_wonOn : MethodName := ⟨RX6, "wonOn", "(I)I"⟩
abbrev cX6_movedOn : ByteArray := prog_8_method_22_code
def yX6_movedOn : MethodName := ⟨RX6, "movedOn", "(I)I"⟩
abbrev cX6_rule : ByteArray := prog_8_method_23_code
def yX6_rule : MethodName := ⟨RX6, "rule", "(I)I"⟩
abbrev cX6_test : ByteArray := prog_8_method_24_code
def yX6_test : MethodName := ⟨RX6, "test", "(II)I"⟩
abbrev cX6_act : ByteArray := prog_8_method_25_code
def yX6_act : MethodName := ⟨RX6, "act", "(I)I"⟩
abbrev cX6_puts : ByteArray := prog_8_method_26_code
def yX6_puts : MethodName := ⟨RX6, "puts", "(ZIII)I"⟩
abbrev cX6_alter : ByteArray := prog_8_method_27_code
def yX6_alter : MethodName := ⟨RX6, "alter", "(III)I"⟩
abbrev cX6_strong : ByteArray := prog_8_method_28_code
def yX6_strong : MethodName := ⟨RX6, "strong", "(I)I"⟩
abbrev cX6_fill : ByteArray := prog_8_method_29_code
def yX6_fill : MethodName := ⟨RX6, "fill", "(I)I"⟩
abbrev cX6_plan : ByteArray := prog_8_method_30_code
def yX6_plan : MethodName := ⟨RX6, "plan", "(I)I"⟩
abbrev cX6_cut : ByteArray := prog_8_method_31_code
def yX6_cut : MethodName := ⟨RX6, "cut", "(I)I"⟩
abbrev cX6_canPull : ByteArray := prog_8_method_32_code
def yX6_canPull : MethodName := ⟨RX6, "canPull", "(II)Z"⟩
abbrev cX6_pullsOn : ByteArray := prog_8_method_33_code
def yX6_pullsOn : MethodName := ⟨RX6, "pullsOn", "(IIZ)I"⟩
abbrev cX6_restsOn : ByteArray := prog_8_method_34_code
def yX6_restsOn : MethodName := ⟨RX6, "restsOn", "(I)V"⟩
abbrev cX6_actsOn : ByteArray := prog_8_method_35_code
def yX6_actsOn : MethodName := ⟨RX6, "actsOn", "(II)Z"⟩
abbrev cX6_pulls : ByteArray := prog_8_method_36_code
def yX6_pulls : MethodName := ⟨RX6, "pulls", "(I)I"⟩
abbrev cX6_pull : ByteArray := prog_8_method_37_code
def yX6_pull : MethodName := ⟨RX6, "pull", "(I)I"⟩
abbrev cX6_rest : ByteArray := prog_8_method_38_code
def yX6_rest : MethodName := ⟨RX6, "rest", "(I)I"⟩
abbrev cX6_copies : ByteArray := prog_8_method_39_code
def yX6_copies : MethodName := ⟨RX6, "copies", "(II)V"⟩
abbrev cX6_planGoes : ByteArray := prog_8_method_40_code
def yX6_planGoes : MethodName := ⟨RX6, "planGoes", "(I)V"⟩
abbrev cX6_laughsMore : ByteArray := prog_8_method_41_code
def yX6_laughsMore : MethodName := ⟨RX6, "laughsMore", "()I"⟩
abbrev cX6_runs : ByteArray := prog_8_method_42_code
def yX6_runs : MethodName := ⟨RX6, "runs", "(I)I"⟩
abbrev cX6_ahead : ByteArray := prog_8_method_43_code
def yX6_ahead : MethodName := ⟨RX6, "ahead", "(I)I"⟩
abbrev cX6_aloneBy : ByteArray := prog_8_method_44_code
def yX6_aloneBy : MethodName := ⟨RX6, "aloneBy", "(I)I"⟩
abbrev cX6_need : ByteArray := prog_8_method_45_code
def yX6_need : MethodName := ⟨RX6, "need", "(I)I"⟩
abbrev cX6_least : ByteArray := prog_8_method_46_code
def yX6_least : MethodName := ⟨RX6, "least", "(II)I"⟩
abbrev cX6_bitsOf : ByteArray := prog_8_method_47_code
def yX6_bitsOf : MethodName := ⟨RX6, "bitsOf", "(I)I"⟩
abbrev cX6_powerOf : ByteArray := prog_8_method_48_code
def yX6_powerOf : MethodName := ⟨RX6, "powerOf", "(I)I"⟩
abbrev cX6_figureOf : ByteArray := prog_8_method_49_code
def yX6_figureOf : MethodName := ⟨RX6, "figureOf", "(III)I"⟩
abbrev cX6_rowGoes : ByteArray := prog_8_method_50_code
def yX6_rowGoes : MethodName := ⟨RX6, "rowGoes", "(II)Z"⟩
abbrev cX6_best : ByteArray := prog_8_method_51_code
def yX6_best : MethodName := ⟨RX6, "best", "(II)I"⟩
abbrev cX6_hide : ByteArray := prog_8_method_52_code
def yX6_hide : MethodName := ⟨RX6, "hide", "(II)I"⟩
abbrev cX6_swap : ByteArray := prog_8_method_53_code
def yX6_swap : MethodName := ⟨RX6, "swap", "(I)I"⟩
abbrev cX6_unmask : ByteArray := prog_8_method_54_code
def yX6_unmask : MethodName := ⟨RX6, "unmask", "(I)I"⟩
abbrev cX6_lowest : ByteArray := prog_8_method_55_code
def yX6_lowest : MethodName := ⟨RX6, "lowest", "(JJI)J"⟩
abbrev cX6_bySlips : ByteArray := prog_8_method_56_code
def yX6_bySlips : MethodName := ⟨RX6, "bySlips", "(IIIZI)J"⟩
abbrev cX6_isAsked : ByteArray := prog_8_method_57_code
def yX6_isAsked : MethodName := ⟨RX6, "isAsked", "(IIII)Z"⟩
abbrev cX6_luck : ByteArray := prog_8_method_58_code
def yX6_luck : MethodName := ⟨RX6, "luck", "(IIII)J"⟩
abbrev cX6_mean : ByteArray := prog_8_method_59_code
def yX6_mean : MethodName := ⟨RX6, "mean", "(IIII)J"⟩
abbrev cX6_see : ByteArray := prog_8_method_60_code
def yX6_see : MethodName := ⟨RX6, "see", "(IIII)I"⟩
abbrev cX6_forget : ByteArray := prog_8_method_61_code
def yX6_forget : MethodName := ⟨RX6, "forget", "(I)I"⟩
abbrev cX6_kindsOf : ByteArray := prog_8_method_62_code
def yX6_kindsOf : MethodName := ⟨RX6, "kindsOf", "(I)I"⟩
abbrev cX6_kinds : ByteArray := prog_8_method_63_code
def yX6_kinds : MethodName := ⟨RX6, "kinds", "(I)I"⟩
abbrev cX6_ask : ByteArray := prog_8_method_64_code
def yX6_ask : MethodName := ⟨RX6, "ask", "(II)I"⟩
abbrev cX6_arms : ByteArray := prog_8_method_65_code
def yX6_arms : MethodName := ⟨RX6, "arms", "(IIII)I"⟩
abbrev cX6_drift : ByteArray := prog_8_method_66_code
def yX6_drift : MethodName := ⟨RX6, "drift", "(III)I"⟩
abbrev cX6_keep : ByteArray := prog_8_method_67_code
def yX6_keep : MethodName := ⟨RX6, "keep", "(I)I"⟩
abbrev cX6_back : ByteArray := prog_8_method_68_code
def yX6_back : MethodName := ⟨RX6, "back", "(I)I"⟩
abbrev cX6_sheet : ByteArray := prog_8_method_69_code
def yX6_sheet : MethodName := ⟨RX6, "sheet", "(III)I"⟩
abbrev cX6_lay : ByteArray := prog_8_method_70_code
def yX6_lay : MethodName := ⟨RX6, "lay", "(III)I"⟩
abbrev cX6_read : ByteArray := prog_8_method_71_code
def yX6_read : MethodName := ⟨RX6, "read", "(IIII)I"⟩
abbrev cX6_torn : ByteArray := prog_8_method_72_code
def yX6_torn : MethodName := ⟨RX6, "torn", "()I"⟩
abbrev cX6_count : ByteArray := prog_8_method_73_code
def yX6_count : MethodName := ⟨RX6, "count", "(I)I"⟩
def RJ6 : String := "java/lang/Integer"
abbrev cJ6_bitCount_0f7a4 : ByteArray := prog_9_method_49_code
def yJ6_bitCount_0f7a4 : MethodName := ⟨RJ6, "bitCount", "(I)I"⟩
def RJ9 : String := "java/lang/Math"
abbrev cJ9_max_7cf53 : ByteArray := prog_10_method_65_code
def yJ9_max_7cf53 : MethodName := ⟨RJ9, "max", "(II)I"⟩
abbrev cJ9_min_7cf53 : ByteArray := prog_10_method_69_code
def yJ9_min_7cf53 : MethodName := ⟨RJ9, "min", "(II)I"⟩
def RJ0 : String := "java/lang/String"
abbrev cJ0_length_8abf5 : ByteArray := prog_11_method_54_code
def yJ0_length_8abf5 : MethodName := ⟨RJ0, "length", "()I"⟩
abbrev cJ0_charAt_5068e : ByteArray := prog_11_method_56_code
def yJ0_charAt_5068e : MethodName := ⟨RJ0, "charAt", "(I)C"⟩
abbrev cJ0_coder_7d493 : ByteArray := prog_11_method_152_code
def yJ0_coder_7d493 : MethodName := ⟨RJ0, "coder", "()B"⟩
abbrev cJ0_isLatin1_aae02 : ByteArray := prog_11_method_154_code
def yJ0_isLatin1_aae02 : MethodName := ⟨RJ0, "isLatin1", "()Z"⟩
abbrev cJ0_checkIndex_df160 : ByteArray := prog_11_method_155_code
def yJ0_checkIndex_df160 : MethodName := ⟨RJ0, "checkIndex", "(II)V"⟩
def RJ1 : String := "java/lang/StringLatin1"
abbrev cJ1_charAt_3b067 : ByteArray := prog_12_method_2_code
def yJ1_charAt_3b067 : MethodName := ⟨RJ1, "charAt", "([BI)C"⟩
def RJ2 : String := "java/lang/StringUTF16"
abbrev cJ2_getChar_3b067 : ByteArray := prog_13_method_5_code
def yJ2_getChar_3b067 : MethodName := ⟨RJ2, "getChar", "([BI)C"⟩
abbrev cJ2_length_9d52b : ByteArray := prog_13_method_6_code
def yJ2_length_9d52b : MethodName := ⟨RJ2, "length", "([B)I"⟩
abbrev cJ2_charAt_3b067 : ByteArray := prog_13_method_83_code
def yJ2_charAt_3b067 : MethodName := ⟨RJ2, "charAt", "([BI)C"⟩
abbrev cJ2_checkIndex_2214a : ByteArray := prog_13_method_91_code
def yJ2_checkIndex_2214a : MethodName := ⟨RJ2, "checkIndex", "(I[B)V"⟩
def RJ10 : String := "java/lang/System"
def RJ3 : String := "jdk/internal/util/Preconditions"
abbrev cJ3_checkIndex_8e157 : ByteArray := prog_15_method_11_code
def yJ3_checkIndex_8e157 : MethodName := ⟨RJ3, "checkIndex", "(IILjava/util/function/BiFunction;)I"⟩
def RL : String := "HornTestsLaw"
abbrev cL_law : ByteArray := code
def yL_law : MethodName := ⟨RL, "law", "([I)Z"⟩
abbrev vwCl : List vw_C := [(RX0, TX0, 9), (RX1, TX1, 3), (RX2, TX2, 11), (RX3, TX3, 3), (RX4, TX4, 5), (RX5, TX5, 11), (RX6, TX6, 25)]
