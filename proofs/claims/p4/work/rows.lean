section
-- ===== PART A: goes FIRST, ahead of the names: the tables' words, and 'selects' of the private methods out of them =====
/-- a private method of a class that the tables say can be made, by its rows of tables_1 -/
def lw_okq (q : MethodName × Nat) : Prop := (q.1.cls ≠ "java/lang/invoke/MethodHandle" ∧ q.1.cls ≠ "java/lang/invoke/VarHandle") ∧ Cond.instantiable q.1.cls q.2 ∈ tables_1 ∧ Cond.privateMethod q.1 ∈ tables_1 ∧ Cond.instanceMethod q.1 ∈ tables_1
theorem lw_p0 : lw_okq (⟨"HornTests$Scribe", "advance", "()V"⟩, 11) := ⟨⟨by decide +kernel, by decide +kernel⟩, List.mem_of_getElem? (i := 81) (by decide +kernel), List.mem_of_getElem? (i := 250) (by decide +kernel), List.mem_of_getElem? (i := 251) (by decide +kernel)⟩
theorem lw_p1 : lw_okq (⟨"HornTests$Scribe", "skip", "(CC)V"⟩, 11) := ⟨⟨by decide +kernel, by decide +kernel⟩, List.mem_of_getElem? (i := 81) (by decide +kernel), List.mem_of_getElem? (i := 254) (by decide +kernel), List.mem_of_getElem? (i := 255) (by decide +kernel)⟩
theorem lw_p2 : lw_okq (⟨"HornTests$Scribe", "takeNumber", "()V"⟩, 11) := ⟨⟨by decide +kernel, by decide +kernel⟩, List.mem_of_getElem? (i := 81) (by decide +kernel), List.mem_of_getElem? (i := 259) (by decide +kernel), List.mem_of_getElem? (i := 260) (by decide +kernel)⟩
theorem lw_p3 : lw_okq (⟨"HornTests$Scribe", "readLine", "()V"⟩, 11) := ⟨⟨by decide +kernel, by decide +kernel⟩, List.mem_of_getElem? (i := 81) (by decide +kernel), List.mem_of_getElem? (i := 263) (by decide +kernel), List.mem_of_getElem? (i := 264) (by decide +kernel)⟩
theorem lw_p4 : lw_okq (⟨"HornTests$Scribe", "wordRead", "()I"⟩, 11) := ⟨⟨by decide +kernel, by decide +kernel⟩, List.mem_of_getElem? (i := 81) (by decide +kernel), List.mem_of_getElem? (i := 267) (by decide +kernel), List.mem_of_getElem? (i := 268) (by decide +kernel)⟩
theorem lw_p5 : lw_okq (⟨"HornTests$Scribe", "isWord", "(Ljava/lang/String;)Z"⟩, 11) := ⟨⟨by decide +kernel, by decide +kernel⟩, List.mem_of_getElem? (i := 81) (by decide +kernel), List.mem_of_getElem? (i := 281) (by decide +kernel), List.mem_of_getElem? (i := 282) (by decide +kernel)⟩
theorem lw_p6 : lw_okq (⟨"HornTests$Scribe", "faultOfToken", "()I"⟩, 11) := ⟨⟨by decide +kernel, by decide +kernel⟩, List.mem_of_getElem? (i := 81) (by decide +kernel), List.mem_of_getElem? (i := 333) (by decide +kernel), List.mem_of_getElem? (i := 334) (by decide +kernel)⟩
theorem lw_p7 : lw_okq (⟨"HornTests$Scribe", "refuse", "(II)V"⟩, 11) := ⟨⟨by decide +kernel, by decide +kernel⟩, List.mem_of_getElem? (i := 81) (by decide +kernel), List.mem_of_getElem? (i := 337) (by decide +kernel), List.mem_of_getElem? (i := 338) (by decide +kernel)⟩
theorem lw_p8 : lw_okq (⟨"HornTests$Scribe", "readTest", "(I)V"⟩, 11) := ⟨⟨by decide +kernel, by decide +kernel⟩, List.mem_of_getElem? (i := 81) (by decide +kernel), List.mem_of_getElem? (i := 341) (by decide +kernel), List.mem_of_getElem? (i := 342) (by decide +kernel)⟩
theorem lw_p9 : lw_okq (⟨"HornTests$Scribe", "isNumberWithin", "(II)Z"⟩, 11) := ⟨⟨by decide +kernel, by decide +kernel⟩, List.mem_of_getElem? (i := 81) (by decide +kernel), List.mem_of_getElem? (i := 345) (by decide +kernel), List.mem_of_getElem? (i := 346) (by decide +kernel)⟩
theorem lw_p10 : lw_okq (⟨"HornTests$Scribe", "readOnce", "(I)V"⟩, 11) := ⟨⟨by decide +kernel, by decide +kernel⟩, List.mem_of_getElem? (i := 81) (by decide +kernel), List.mem_of_getElem? (i := 353) (by decide +kernel), List.mem_of_getElem? (i := 354) (by decide +kernel)⟩
theorem lw_p11 : lw_okq (⟨"HornTests$Scribe", "readPlan", "()V"⟩, 11) := ⟨⟨by decide +kernel, by decide +kernel⟩, List.mem_of_getElem? (i := 81) (by decide +kernel), List.mem_of_getElem? (i := 360) (by decide +kernel), List.mem_of_getElem? (i := 361) (by decide +kernel)⟩
theorem lw_p12 : lw_okq (⟨"HornTests$Scribe", "plansMissingTest", "()Z"⟩, 11) := ⟨⟨by decide +kernel, by decide +kernel⟩, List.mem_of_getElem? (i := 81) (by decide +kernel), List.mem_of_getElem? (i := 364) (by decide +kernel), List.mem_of_getElem? (i := 365) (by decide +kernel)⟩
theorem lw_p13 : lw_okq (⟨"HornTests$Evening", "sumOf", "([I)I"⟩, 9) := ⟨⟨by decide +kernel, by decide +kernel⟩, List.mem_of_getElem? (i := 24) (by decide +kernel), List.mem_of_getElem? (i := 400) (by decide +kernel), List.mem_of_getElem? (i := 401) (by decide +kernel)⟩
theorem lw_p14 : lw_okq (⟨"HornTests", "resize", "(II)I"⟩, 11) := ⟨⟨by decide +kernel, by decide +kernel⟩, List.mem_of_getElem? (i := 16) (by decide +kernel), List.mem_of_getElem? (i := 430) (by decide +kernel), List.mem_of_getElem? (i := 431) (by decide +kernel)⟩
theorem lw_p15 : lw_okq (⟨"HornTests", "bestRow", "(I)I"⟩, 11) := ⟨⟨by decide +kernel, by decide +kernel⟩, List.mem_of_getElem? (i := 16) (by decide +kernel), List.mem_of_getElem? (i := 513) (by decide +kernel), List.mem_of_getElem? (i := 514) (by decide +kernel)⟩
def lw_privs_1 : List (MethodName × Nat) := [(⟨"HornTests$Scribe", "advance", "()V"⟩, 11), (⟨"HornTests$Scribe", "skip", "(CC)V"⟩, 11), (⟨"HornTests$Scribe", "takeNumber", "()V"⟩, 11), (⟨"HornTests$Scribe", "readLine", "()V"⟩, 11), (⟨"HornTests$Scribe", "wordRead", "()I"⟩, 11), (⟨"HornTests$Scribe", "isWord", "(Ljava/lang/String;)Z"⟩, 11), (⟨"HornTests$Scribe", "faultOfToken", "()I"⟩, 11), (⟨"HornTests$Scribe", "refuse", "(II)V"⟩, 11), (⟨"HornTests$Scribe", "readTest", "(I)V"⟩, 11), (⟨"HornTests$Scribe", "isNumberWithin", "(II)Z"⟩, 11), (⟨"HornTests$Scribe", "readOnce", "(I)V"⟩, 11), (⟨"HornTests$Scribe", "readPlan", "()V"⟩, 11), (⟨"HornTests$Scribe", "plansMissingTest", "()Z"⟩, 11), (⟨"HornTests$Evening", "sumOf", "([I)I"⟩, 9), (⟨"HornTests", "resize", "(II)I"⟩, 11), (⟨"HornTests", "bestRow", "(I)I"⟩, 11)]
theorem lw_r1 : ∀ q ∈ lw_privs_1, lw_okq q := List.forall_mem_cons.mpr ⟨lw_p0, List.forall_mem_cons.mpr ⟨lw_p1, List.forall_mem_cons.mpr ⟨lw_p2, List.forall_mem_cons.mpr ⟨lw_p3, List.forall_mem_cons.mpr ⟨lw_p4, List.forall_mem_cons.mpr ⟨lw_p5, List.forall_mem_cons.mpr ⟨lw_p6, List.forall_mem_cons.mpr ⟨lw_p7, List.forall_mem_cons.mpr ⟨lw_p8, List.forall_mem_cons.mpr ⟨lw_p9, List.forall_mem_cons.mpr ⟨lw_p10, List.forall_mem_cons.mpr ⟨lw_p11, List.forall_mem_cons.mpr ⟨lw_p12, List.forall_mem_cons.mpr ⟨lw_p13, List.forall_mem_cons.mpr ⟨lw_p14, List.forall_mem_cons.mpr ⟨lw_p15, fun _ h => absurd h List.not_mem_nil⟩⟩⟩⟩⟩⟩⟩⟩⟩⟩⟩⟩⟩⟩⟩⟩
theorem lw_p16 : lw_okq (⟨"HornTests", "tryRow", "(II)V"⟩, 11) := ⟨⟨by decide +kernel, by decide +kernel⟩, List.mem_of_getElem? (i := 16) (by decide +kernel), List.mem_of_getElem? (i := 517) (by decide +kernel), List.mem_of_getElem? (i := 518) (by decide +kernel)⟩
theorem lw_p17 : lw_okq (⟨"HornTests", "actOfRow", "(III)I"⟩, 11) := ⟨⟨by decide +kernel, by decide +kernel⟩, List.mem_of_getElem? (i := 16) (by decide +kernel), List.mem_of_getElem? (i := 521) (by decide +kernel), List.mem_of_getElem? (i := 522) (by decide +kernel)⟩
theorem lw_p18 : lw_okq (⟨"HornTests", "laughsIfChanged", "(II)I"⟩, 11) := ⟨⟨by decide +kernel, by decide +kernel⟩, List.mem_of_getElem? (i := 16) (by decide +kernel), List.mem_of_getElem? (i := 545) (by decide +kernel), List.mem_of_getElem? (i := 546) (by decide +kernel)⟩
theorem lw_p19 : lw_okq (⟨"HornTests", "movedIfPlain", "(I)I"⟩, 11) := ⟨⟨by decide +kernel, by decide +kernel⟩, List.mem_of_getElem? (i := 16) (by decide +kernel), List.mem_of_getElem? (i := 553) (by decide +kernel), List.mem_of_getElem? (i := 554) (by decide +kernel)⟩
theorem lw_p20 : lw_okq (⟨"HornTests", "areOdds", "(IIII)Z"⟩, 11) := ⟨⟨by decide +kernel, by decide +kernel⟩, List.mem_of_getElem? (i := 16) (by decide +kernel), List.mem_of_getElem? (i := 561) (by decide +kernel), List.mem_of_getElem? (i := 562) (by decide +kernel)⟩
theorem lw_p21 : lw_okq (⟨"HornTests$Odds", "spreadOnce", "(II)V"⟩, 3) := ⟨⟨by decide +kernel, by decide +kernel⟩, List.mem_of_getElem? (i := 152) (by decide +kernel), List.mem_of_getElem? (i := 571) (by decide +kernel), List.mem_of_getElem? (i := 572) (by decide +kernel)⟩
theorem lw_p22 : lw_okq (⟨"HornTests", "imageAt", "(I)LHornTests$Evening;"⟩, 11) := ⟨⟨by decide +kernel, by decide +kernel⟩, List.mem_of_getElem? (i := 16) (by decide +kernel), List.mem_of_getElem? (i := 644) (by decide +kernel), List.mem_of_getElem? (i := 645) (by decide +kernel)⟩
theorem lw_p23 : lw_okq (⟨"HornTestsModel", "step", "()V"⟩, 25) := ⟨⟨by decide +kernel, by decide +kernel⟩, List.mem_of_getElem? (i := 705) (by decide +kernel), List.mem_of_getElem? (i := 803) (by decide +kernel), List.mem_of_getElem? (i := 804) (by decide +kernel)⟩
theorem lw_p24 : lw_okq (⟨"HornTestsModel", "byteAt", "(I)I"⟩, 25) := ⟨⟨by decide +kernel, by decide +kernel⟩, List.mem_of_getElem? (i := 705) (by decide +kernel), List.mem_of_getElem? (i := 807) (by decide +kernel), List.mem_of_getElem? (i := 808) (by decide +kernel)⟩
theorem lw_p25 : lw_okq (⟨"HornTestsModel", "fails", "(I)V"⟩, 25) := ⟨⟨by decide +kernel, by decide +kernel⟩, List.mem_of_getElem? (i := 705) (by decide +kernel), List.mem_of_getElem? (i := 815) (by decide +kernel), List.mem_of_getElem? (i := 816) (by decide +kernel)⟩
theorem lw_p26 : lw_okq (⟨"HornTestsModel", "readLine", "()V"⟩, 25) := ⟨⟨by decide +kernel, by decide +kernel⟩, List.mem_of_getElem? (i := 705) (by decide +kernel), List.mem_of_getElem? (i := 819) (by decide +kernel), List.mem_of_getElem? (i := 820) (by decide +kernel)⟩
theorem lw_p27 : lw_okq (⟨"HornTestsModel", "nameHere", "()I"⟩, 25) := ⟨⟨by decide +kernel, by decide +kernel⟩, List.mem_of_getElem? (i := 705) (by decide +kernel), List.mem_of_getElem? (i := 823) (by decide +kernel), List.mem_of_getElem? (i := 824) (by decide +kernel)⟩
theorem lw_p28 : lw_okq (⟨"HornTestsModel", "readTest", "(I)V"⟩, 25) := ⟨⟨by decide +kernel, by decide +kernel⟩, List.mem_of_getElem? (i := 705) (by decide +kernel), List.mem_of_getElem? (i := 828) (by decide +kernel), List.mem_of_getElem? (i := 829) (by decide +kernel)⟩
theorem lw_p29 : lw_okq (⟨"HornTestsModel", "number", "(II)I"⟩, 25) := ⟨⟨by decide +kernel, by decide +kernel⟩, List.mem_of_getElem? (i := 705) (by decide +kernel), List.mem_of_getElem? (i := 832) (by decide +kernel), List.mem_of_getElem? (i := 833) (by decide +kernel)⟩
theorem lw_p30 : lw_okq (⟨"HornTestsModel", "readPlan", "()V"⟩, 25) := ⟨⟨by decide +kernel, by decide +kernel⟩, List.mem_of_getElem? (i := 705) (by decide +kernel), List.mem_of_getElem? (i := 836) (by decide +kernel), List.mem_of_getElem? (i := 837) (by decide +kernel)⟩
theorem lw_p31 : lw_okq (⟨"HornTestsModel", "strengthOn", "(I)I"⟩, 25) := ⟨⟨by decide +kernel, by decide +kernel⟩, List.mem_of_getElem? (i := 705) (by decide +kernel), List.mem_of_getElem? (i := 848) (by decide +kernel), List.mem_of_getElem? (i := 849) (by decide +kernel)⟩
def lw_privs_2 : List (MethodName × Nat) := [(⟨"HornTests", "tryRow", "(II)V"⟩, 11), (⟨"HornTests", "actOfRow", "(III)I"⟩, 11), (⟨"HornTests", "laughsIfChanged", "(II)I"⟩, 11), (⟨"HornTests", "movedIfPlain", "(I)I"⟩, 11), (⟨"HornTests", "areOdds", "(IIII)Z"⟩, 11), (⟨"HornTests$Odds", "spreadOnce", "(II)V"⟩, 3), (⟨"HornTests", "imageAt", "(I)LHornTests$Evening;"⟩, 11), (⟨"HornTestsModel", "step", "()V"⟩, 25), (⟨"HornTestsModel", "byteAt", "(I)I"⟩, 25), (⟨"HornTestsModel", "fails", "(I)V"⟩, 25), (⟨"HornTestsModel", "readLine", "()V"⟩, 25), (⟨"HornTestsModel", "nameHere", "()I"⟩, 25), (⟨"HornTestsModel", "readTest", "(I)V"⟩, 25), (⟨"HornTestsModel", "number", "(II)I"⟩, 25), (⟨"HornTestsModel", "readPlan", "()V"⟩, 25), (⟨"HornTestsModel", "strengthOn", "(I)I"⟩, 25)]
theorem lw_r2 : ∀ q ∈ lw_privs_2, lw_okq q := List.forall_mem_cons.mpr ⟨lw_p16, List.forall_mem_cons.mpr ⟨lw_p17, List.forall_mem_cons.mpr ⟨lw_p18, List.forall_mem_cons.mpr ⟨lw_p19, List.forall_mem_cons.mpr ⟨lw_p20, List.forall_mem_cons.mpr ⟨lw_p21, List.forall_mem_cons.mpr ⟨lw_p22, List.forall_mem_cons.mpr ⟨lw_p23, List.forall_mem_cons.mpr ⟨lw_p24, List.forall_mem_cons.mpr ⟨lw_p25, List.forall_mem_cons.mpr ⟨lw_p26, List.forall_mem_cons.mpr ⟨lw_p27, List.forall_mem_cons.mpr ⟨lw_p28, List.forall_mem_cons.mpr ⟨lw_p29, List.forall_mem_cons.mpr ⟨lw_p30, List.forall_mem_cons.mpr ⟨lw_p31, fun _ h => absurd h List.not_mem_nil⟩⟩⟩⟩⟩⟩⟩⟩⟩⟩⟩⟩⟩⟩⟩⟩
theorem lw_p32 : lw_okq (⟨"HornTestsModel", "wonOn", "(I)I"⟩, 25) := ⟨⟨by decide +kernel, by decide +kernel⟩, List.mem_of_getElem? (i := 705) (by decide +kernel), List.mem_of_getElem? (i := 852) (by decide +kernel), List.mem_of_getElem? (i := 853) (by decide +kernel)⟩
theorem lw_p33 : lw_okq (⟨"HornTestsModel", "isWon", "(II)Z"⟩, 25) := ⟨⟨by decide +kernel, by decide +kernel⟩, List.mem_of_getElem? (i := 705) (by decide +kernel), List.mem_of_getElem? (i := 856) (by decide +kernel), List.mem_of_getElem? (i := 857) (by decide +kernel)⟩
theorem lw_p34 : lw_okq (⟨"HornTestsModel", "movedOn", "(I)I"⟩, 25) := ⟨⟨by decide +kernel, by decide +kernel⟩, List.mem_of_getElem? (i := 705) (by decide +kernel), List.mem_of_getElem? (i := 860) (by decide +kernel), List.mem_of_getElem? (i := 861) (by decide +kernel)⟩
theorem lw_p35 : lw_okq (⟨"HornTestsModel", "isTest", "(I)Z"⟩, 25) := ⟨⟨by decide +kernel, by decide +kernel⟩, List.mem_of_getElem? (i := 705) (by decide +kernel), List.mem_of_getElem? (i := 868) (by decide +kernel), List.mem_of_getElem? (i := 869) (by decide +kernel)⟩
theorem lw_p36 : lw_okq (⟨"HornTestsModel", "yieldOn", "(II)I"⟩, 25) := ⟨⟨by decide +kernel, by decide +kernel⟩, List.mem_of_getElem? (i := 705) (by decide +kernel), List.mem_of_getElem? (i := 873) (by decide +kernel), List.mem_of_getElem? (i := 874) (by decide +kernel)⟩
theorem lw_p37 : lw_okq (⟨"HornTestsModel", "puts", "(ZIII)I"⟩, 25) := ⟨⟨by decide +kernel, by decide +kernel⟩, List.mem_of_getElem? (i := 705) (by decide +kernel), List.mem_of_getElem? (i := 890) (by decide +kernel), List.mem_of_getElem? (i := 891) (by decide +kernel)⟩
theorem lw_p38 : lw_okq (⟨"HornTestsModel", "pulls", "(I)I"⟩, 25) := ⟨⟨by decide +kernel, by decide +kernel⟩, List.mem_of_getElem? (i := 705) (by decide +kernel), List.mem_of_getElem? (i := 915) (by decide +kernel), List.mem_of_getElem? (i := 916) (by decide +kernel)⟩
theorem lw_p39 : lw_okq (⟨"HornTestsModel", "canPull", "(II)Z"⟩, 25) := ⟨⟨by decide +kernel, by decide +kernel⟩, List.mem_of_getElem? (i := 705) (by decide +kernel), List.mem_of_getElem? (i := 919) (by decide +kernel), List.mem_of_getElem? (i := 920) (by decide +kernel)⟩
theorem lw_p40 : lw_okq (⟨"HornTestsModel", "pullsOn", "(IIZ)I"⟩, 25) := ⟨⟨by decide +kernel, by decide +kernel⟩, List.mem_of_getElem? (i := 705) (by decide +kernel), List.mem_of_getElem? (i := 923) (by decide +kernel), List.mem_of_getElem? (i := 924) (by decide +kernel)⟩
theorem lw_p41 : lw_okq (⟨"HornTestsModel", "restsOn", "(I)V"⟩, 25) := ⟨⟨by decide +kernel, by decide +kernel⟩, List.mem_of_getElem? (i := 705) (by decide +kernel), List.mem_of_getElem? (i := 931) (by decide +kernel), List.mem_of_getElem? (i := 932) (by decide +kernel)⟩
theorem lw_p42 : lw_okq (⟨"HornTestsModel", "planGoes", "(I)V"⟩, 25) := ⟨⟨by decide +kernel, by decide +kernel⟩, List.mem_of_getElem? (i := 705) (by decide +kernel), List.mem_of_getElem? (i := 939) (by decide +kernel), List.mem_of_getElem? (i := 940) (by decide +kernel)⟩
theorem lw_p43 : lw_okq (⟨"HornTestsModel", "copies", "(II)V"⟩, 25) := ⟨⟨by decide +kernel, by decide +kernel⟩, List.mem_of_getElem? (i := 705) (by decide +kernel), List.mem_of_getElem? (i := 943) (by decide +kernel), List.mem_of_getElem? (i := 944) (by decide +kernel)⟩
theorem lw_p44 : lw_okq (⟨"HornTestsModel", "actsOn", "(II)Z"⟩, 25) := ⟨⟨by decide +kernel, by decide +kernel⟩, List.mem_of_getElem? (i := 705) (by decide +kernel), List.mem_of_getElem? (i := 947) (by decide +kernel), List.mem_of_getElem? (i := 948) (by decide +kernel)⟩
theorem lw_p45 : lw_okq (⟨"HornTestsModel", "laughsMore", "()I"⟩, 25) := ⟨⟨by decide +kernel, by decide +kernel⟩, List.mem_of_getElem? (i := 705) (by decide +kernel), List.mem_of_getElem? (i := 951) (by decide +kernel), List.mem_of_getElem? (i := 952) (by decide +kernel)⟩
theorem lw_p46 : lw_okq (⟨"HornTestsModel", "aloneBy", "(I)I"⟩, 25) := ⟨⟨by decide +kernel, by decide +kernel⟩, List.mem_of_getElem? (i := 705) (by decide +kernel), List.mem_of_getElem? (i := 963) (by decide +kernel), List.mem_of_getElem? (i := 964) (by decide +kernel)⟩
theorem lw_p47 : lw_okq (⟨"HornTestsModel", "rowGoes", "(II)Z"⟩, 25) := ⟨⟨by decide +kernel, by decide +kernel⟩, List.mem_of_getElem? (i := 705) (by decide +kernel), List.mem_of_getElem? (i := 980) (by decide +kernel), List.mem_of_getElem? (i := 981) (by decide +kernel)⟩
def lw_privs_3 : List (MethodName × Nat) := [(⟨"HornTestsModel", "wonOn", "(I)I"⟩, 25), (⟨"HornTestsModel", "isWon", "(II)Z"⟩, 25), (⟨"HornTestsModel", "movedOn", "(I)I"⟩, 25), (⟨"HornTestsModel", "isTest", "(I)Z"⟩, 25), (⟨"HornTestsModel", "yieldOn", "(II)I"⟩, 25), (⟨"HornTestsModel", "puts", "(ZIII)I"⟩, 25), (⟨"HornTestsModel", "pulls", "(I)I"⟩, 25), (⟨"HornTestsModel", "canPull", "(II)Z"⟩, 25), (⟨"HornTestsModel", "pullsOn", "(IIZ)I"⟩, 25), (⟨"HornTestsModel", "restsOn", "(I)V"⟩, 25), (⟨"HornTestsModel", "planGoes", "(I)V"⟩, 25), (⟨"HornTestsModel", "copies", "(II)V"⟩, 25), (⟨"HornTestsModel", "actsOn", "(II)Z"⟩, 25), (⟨"HornTestsModel", "laughsMore", "()I"⟩, 25), (⟨"HornTestsModel", "aloneBy", "(I)I"⟩, 25), (⟨"HornTestsModel", "rowGoes", "(II)Z"⟩, 25)]
theorem lw_r3 : ∀ q ∈ lw_privs_3, lw_okq q := List.forall_mem_cons.mpr ⟨lw_p32, List.forall_mem_cons.mpr ⟨lw_p33, List.forall_mem_cons.mpr ⟨lw_p34, List.forall_mem_cons.mpr ⟨lw_p35, List.forall_mem_cons.mpr ⟨lw_p36, List.forall_mem_cons.mpr ⟨lw_p37, List.forall_mem_cons.mpr ⟨lw_p38, List.forall_mem_cons.mpr ⟨lw_p39, List.forall_mem_cons.mpr ⟨lw_p40, List.forall_mem_cons.mpr ⟨lw_p41, List.forall_mem_cons.mpr ⟨lw_p42, List.forall_mem_cons.mpr ⟨lw_p43, List.forall_mem_cons.mpr ⟨lw_p44, List.forall_mem_cons.mpr ⟨lw_p45, List.forall_mem_cons.mpr ⟨lw_p46, List.forall_mem_cons.mpr ⟨lw_p47, fun _ h => absurd h List.not_mem_nil⟩⟩⟩⟩⟩⟩⟩⟩⟩⟩⟩⟩⟩⟩⟩⟩
theorem lw_p48 : lw_okq (⟨"HornTestsModel", "isAsked", "(IIII)Z"⟩, 25) := ⟨⟨by decide +kernel, by decide +kernel⟩, List.mem_of_getElem? (i := 705) (by decide +kernel), List.mem_of_getElem? (i := 1006) (by decide +kernel), List.mem_of_getElem? (i := 1007) (by decide +kernel)⟩
theorem lw_p49 : lw_okq (⟨"HornTestsModel", "bySlips", "(IIIZI)J"⟩, 25) := ⟨⟨by decide +kernel, by decide +kernel⟩, List.mem_of_getElem? (i := 705) (by decide +kernel), List.mem_of_getElem? (i := 1011) (by decide +kernel), List.mem_of_getElem? (i := 1012) (by decide +kernel)⟩
theorem lw_p50 : lw_okq (⟨"HornTestsModel", "kindsOf", "(I)I"⟩, 25) := ⟨⟨by decide +kernel, by decide +kernel⟩, List.mem_of_getElem? (i := 705) (by decide +kernel), List.mem_of_getElem? (i := 1035) (by decide +kernel), List.mem_of_getElem? (i := 1036) (by decide +kernel)⟩
def lw_privs_4 : List (MethodName × Nat) := [(⟨"HornTestsModel", "isAsked", "(IIII)Z"⟩, 25), (⟨"HornTestsModel", "bySlips", "(IIIZI)J"⟩, 25), (⟨"HornTestsModel", "kindsOf", "(I)I"⟩, 25)]
theorem lw_r4 : ∀ q ∈ lw_privs_4, lw_okq q := List.forall_mem_cons.mpr ⟨lw_p48, List.forall_mem_cons.mpr ⟨lw_p49, List.forall_mem_cons.mpr ⟨lw_p50, fun _ h => absurd h List.not_mem_nil⟩⟩⟩
def lw_privs : List (MethodName × Nat) := lw_privs_1 ++ (lw_privs_2 ++ (lw_privs_3 ++ (lw_privs_4)))
def lw_tbl : List Cond := k2_sels lw_privs ++ tables_1
theorem lw_privs_ok : ∀ q ∈ lw_privs, lw_okq q := by
  show ∀ q ∈ lw_privs_1 ++ (lw_privs_2 ++ (lw_privs_3 ++ (lw_privs_4))), lw_okq q
  exact List.forall_mem_append.mpr ⟨lw_r1, List.forall_mem_append.mpr ⟨lw_r2, List.forall_mem_append.mpr ⟨lw_r3, lw_r4⟩⟩⟩
def RX0 : String := "HornTests$Evening"
def TX0 : u_T := fun k => match k with
  | 0 => ("HornTests$Evening", "tests", "I", false)
  | 1 => ("HornTests$Evening", "strength", "I", false)
  | 2 => ("HornTests$Evening", "laughs", "I", false)
  | 3 => ("HornTests$Evening", "acts", "I", false)
  | 4 => ("HornTests$Evening", "kind", "[I", true)
  | 5 => ("HornTests$Evening", "size", "[I", true)
  | 6 => ("HornTests$Evening", "moved", "[I", true)
  | 7 => ("HornTests$Evening", "pulled", "[I", true)
  | _ => ("HornTests$Evening", "planned", "[I", true)
def tyX0 : Nat → FieldType := fun k => match k with
  | 0 => .int
  | 1 => .int
  | 2 => .int
  | 3 => .int
  | 4 => .array .int
  | 5 => .array .int
  | 6 => .array .int
  | 7 => .array .int
  | _ => .array .int
theorem nmX0 : ∀ a, a < 9 → ∀ b, b < 9 → a ≠ b → (TX0 a).2.1 ≠ (TX0 b).2.1 := by decide +kernel
theorem tyX0_ok : ∀ k, k < 9 → parseFieldDescriptor (TX0 k).2.2.1 = some (tyX0 k) := by decide +kernel
abbrev cX0_init : ByteArray := prog_2_method_1_code
def yX0_init : MethodName := ⟨RX0, "<init>", "()V"⟩
abbrev cX0_clear : ByteArray := prog_2_method_2_code
def yX0_clear : MethodName := ⟨RX0, "clear", "()V"⟩
abbrev cX0_become : ByteArray := prog_2_method_3_code
def yX0_become : MethodName := ⟨RX0, "become", "(LHornTests$Evening;)V"⟩
abbrev cX0_has : ByteArray := prog_2_method_4_code
def yX0_has : MethodName := ⟨RX0, "has", "(I)Z"⟩
abbrev cX0_addTest : ByteArray := prog_2_method_5_code
def yX0_addTest : MethodName := ⟨RX0, "addTest", "(II)V"⟩
abbrev cX0_isWon : ByteArray := prog_2_method_6_code
def yX0_isWon : MethodName := ⟨RX0, "isWon", "(I)Z"⟩
abbrev cX0_wonBits : ByteArray := prog_2_method_7_code
def yX0_wonBits : MethodName := ⟨RX0, "wonBits", "()I"⟩
abbrev cX0_wonCount : ByteArray := prog_2_method_8_code
def yX0_wonCount : MethodName := ⟨RX0, "wonCount", "()I"⟩
abbrev cX0_allMoved : ByteArray := prog_2_method_9_code
def yX0_allMoved : MethodName := ⟨RX0, "allMoved", "()I"⟩
abbrev cX0_allSizes : ByteArray := prog_2_method_10_code
def yX0_allSizes : MethodName := ⟨RX0, "allSizes", "()I"⟩
abbrev cX0_allPulled : ByteArray := prog_2_method_11_code
def yX0_allPulled : MethodName := ⟨RX0, "allPulled", "()I"⟩
abbrev cX0_sumOf : ByteArray := prog_2_method_12_code
def yX0_sumOf : MethodName := ⟨RX0, "sumOf", "([I)I"⟩
abbrev cX0_yieldOf : ByteArray := prog_2_method_13_code
def yX0_yieldOf : MethodName := ⟨RX0, "yieldOf", "(I)I"⟩
abbrev cX0_canPull : ByteArray := prog_2_method_14_code
def yX0_canPull : MethodName := ⟨RX0, "canPull", "(I)Z"⟩
abbrev cX0_pullAt : ByteArray := prog_2_method_15_code
def yX0_pullAt : MethodName := ⟨RX0, "pullAt", "(I)I"⟩
abbrev cX0_restOnce : ByteArray := prog_2_method_16_code
def yX0_restOnce : MethodName := ⟨RX0, "restOnce", "()V"⟩
abbrev cX0_perform : ByteArray := prog_2_method_17_code
def yX0_perform : MethodName := ⟨RX0, "perform", "(I)Z"⟩
abbrev cX0_runPlan : ByteArray := prog_2_method_18_code
def yX0_runPlan : MethodName := ⟨RX0, "runPlan", "()I"⟩
abbrev cX0_pullsAlone : ByteArray := prog_2_method_19_code
def yX0_pullsAlone : MethodName := ⟨RX0, "pullsAlone", "(III)I"⟩
def RX1 : String := "HornTests$Odds"
def TX1 : u_T := fun k => match k with
  | 0 => ("HornTests$Odds", "ways", "[J", true)
  | 1 => ("HornTests$Odds", "allWays", "J", false)
  | _ => ("HornTests$Odds", "top", "I", false)
def tyX1 : Nat → FieldType := fun k => match k with
  | 0 => .array .long
  | 1 => .long
  | _ => .int
theorem nmX1 : ∀ a, a < 3 → ∀ b, b < 3 → a ≠ b → (TX1 a).2.1 ≠ (TX1 b).2.1 := by decide +kernel
theorem tyX1_ok : ∀ k, k < 3 → parseFieldDescriptor (TX1 k).2.2.1 = some (tyX1 k) := by decide +kernel
abbrev cX1_init : ByteArray := prog_3_method_1_code
def yX1_init : MethodName := ⟨RX1, "<init>", "()V"⟩
abbrev cX1_spread : ByteArray := prog_3_method_2_code
def yX1_spread : MethodName := ⟨RX1, "spread", "(LHornTests$Evening;III)V"⟩
abbrev cX1_spreadOnce : ByteArray := prog_3_method_3_code
def yX1_spreadOnce : MethodName := ⟨RX1, "spreadOnce", "(II)V"⟩
abbrev cX1_waysWon : ByteArray := prog_3_method_4_code
def yX1_waysWon : MethodName := ⟨RX1, "waysWon", "()J"⟩
abbrev cX1_movedInAllWays : ByteArray := prog_3_method_5_code
def yX1_movedInAllWays : MethodName := ⟨RX1, "movedInAllWays", "()J"⟩
abbrev cX1_lowest : ByteArray := prog_3_method_6_code
def yX1_lowest : MethodName := ⟨RX1, "lowest", "(JI)J"⟩
abbrev cX1_commonDivisor : ByteArray := prog_3_method_7_code
def yX1_commonDivisor : MethodName := ⟨RX1, "commonDivisor", "(JJ)J"⟩
def RX2 : String := "HornTests$Scribe"
def TX2 : u_T := fun k => match k with
  | 0 => ("HornTests$Scribe", "bytes", "[I", true)
  | 1 => ("HornTests$Scribe", "length", "I", false)
  | 2 => ("HornTests$Scribe", "draft", "LHornTests$Evening;", true)
  | 3 => ("HornTests$Scribe", "told", "I", false)
  | 4 => ("HornTests$Scribe", "lines", "I", false)
  | 5 => ("HornTests$Scribe", "fault", "I", false)
  | 6 => ("HornTests$Scribe", "place", "I", false)
  | 7 => ("HornTests$Scribe", "at", "I", false)
  | 8 => ("HornTests$Scribe", "token", "I", false)
  | 9 => ("HornTests$Scribe", "from", "I", false)
  | _ => ("HornTests$Scribe", "number", "I", false)
def tyX2 : Nat → FieldType := fun k => match k with
  | 0 => .array .int
  | 1 => .int
  | 2 => .object "HornTests$Evening"
  | 3 => .int
  | 4 => .int
  | 5 => .int
  | 6 => .int
  | 7 => .int
  | 8 => .int
  | 9 => .int
  | _ => .int
theorem nmX2 : ∀ a, a < 11 → ∀ b, b < 11 → a ≠ b → (TX2 a).2.1 ≠ (TX2 b).2.1 := by decide +kernel
theorem tyX2_ok : ∀ k, k < 11 → parseFieldDescriptor (TX2 k).2.2.1 = some (tyX2 k) := by decide +kernel
abbrev cX2_init : ByteArray := prog_4_method_1_code
def yX2_init : MethodName := ⟨RX2, "<init>", "()V"⟩
abbrev cX2_write : ByteArray := prog_4_method_2_code
def yX2_write : MethodName := ⟨RX2, "write", "(I)Z"⟩
abbrev cX2_readAll : ByteArray := prog_4_method_3_code
def yX2_readAll : MethodName := ⟨RX2, "readAll", "()V"⟩
abbrev cX2_readLine : ByteArray := prog_4_method_4_code
def yX2_readLine : MethodName := ⟨RX2, "readLine", "()V"⟩
abbrev cX2_readTest : ByteArray := prog_4_method_5_code
def yX2_readTest : MethodName := ⟨RX2, "readTest", "(I)V"⟩
abbrev cX2_readOnce : ByteArray := prog_4_method_6_code
def yX2_readOnce : MethodName := ⟨RX2, "readOnce", "(I)V"⟩
abbrev cX2_readPlan : ByteArray := prog_4_method_7_code
def yX2_readPlan : MethodName := ⟨RX2, "readPlan", "()V"⟩
abbrev cX2_plansMissingTest : ByteArray := prog_4_method_8_code
def yX2_plansMissingTest : MethodName := ⟨RX2, "plansMissingTest", "()Z"⟩
abbrev cX2_isNumberWithin : ByteArray := prog_4_method_9_code
def yX2_isNumberWithin : MethodName := ⟨RX2, "isNumberWithin", "(II)Z"⟩
abbrev cX2_faultOfToken : ByteArray := prog_4_method_10_code
def yX2_faultOfToken : MethodName := ⟨RX2, "faultOfToken", "()I"⟩
abbrev cX2_refuse : ByteArray := prog_4_method_11_code
def yX2_refuse : MethodName := ⟨RX2, "refuse", "(II)V"⟩
abbrev cX2_advance : ByteArray := prog_4_method_12_code
def yX2_advance : MethodName := ⟨RX2, "advance", "()V"⟩
abbrev cX2_skip : ByteArray := prog_4_method_13_code
def yX2_skip : MethodName := ⟨RX2, "skip", "(CC)V"⟩
abbrev cX2_takeNumber : ByteArray := prog_4_method_14_code
def yX2_takeNumber : MethodName := ⟨RX2, "takeNumber", "()V"⟩
abbrev cX2_wordRead : ByteArray := prog_4_method_15_code
def yX2_wordRead : MethodName := ⟨RX2, "wordRead", "()I"⟩
abbrev cX2_isWord : ByteArray := prog_4_method_16_code
def yX2_isWord : MethodName := ⟨RX2, "isWord", "(Ljava/lang/String;)Z"⟩
abbrev cX2_spelling : ByteArray := prog_4_method_17_code
def yX2_spelling : MethodName := ⟨RX2, "spelling", "(I)Ljava/lang/String;"⟩
def RX3 : String := "HornTests$Sheets"
def TX3 : u_T := fun k => match k with
  | 0 => ("HornTests$Sheets", "lanes", "[I", true)
  | 1 => ("HornTests$Sheets", "length", "[I", true)
  | _ => ("HornTests$Sheets", "cells", "[[I", true)
def tyX3 : Nat → FieldType := fun k => match k with
  | 0 => .array .int
  | 1 => .array .int
  | _ => .array (.array .int)
theorem nmX3 : ∀ a, a < 3 → ∀ b, b < 3 → a ≠ b → (TX3 a).2.1 ≠ (TX3 b).2.1 := by decide +kernel
theorem tyX3_ok : ∀ k, k < 3 → parseFieldDescriptor (TX3 k).2.2.1 = some (tyX3 k) := by decide +kernel
abbrev cX3_init : ByteArray := prog_5_method_1_code
def yX3_init : MethodName := ⟨RX3, "<init>", "()V"⟩
abbrev cX3_has : ByteArray := prog_5_method_2_code
def yX3_has : MethodName := ⟨RX3, "has", "(I)Z"⟩
abbrev cX3_isNothing : ByteArray := prog_5_method_3_code
def yX3_isNothing : MethodName := ⟨RX3, "isNothing", "(I)Z"⟩
abbrev cX3_renew : ByteArray := prog_5_method_4_code
def yX3_renew : MethodName := ⟨RX3, "renew", "(III)V"⟩
abbrev cX3_faultOfCell : ByteArray := prog_5_method_5_code
def yX3_faultOfCell : MethodName := ⟨RX3, "faultOfCell", "(II)I"⟩
abbrev cX3_faultOfReading : ByteArray := prog_5_method_6_code
def yX3_faultOfReading : MethodName := ⟨RX3, "faultOfReading", "(III)I"⟩
abbrev cX3_put : ByteArray := prog_5_method_7_code
def yX3_put : MethodName := ⟨RX3, "put", "(III)V"⟩
def RX4 : String := "HornTests$Sightings"
def TX4 : u_T := fun k => match k with
  | 0 => ("HornTests$Sightings", "known", "I", false)
  | 1 => ("HornTests$Sightings", "test", "[I", true)
  | 2 => ("HornTests$Sightings", "strength", "[I", true)
  | 3 => ("HornTests$Sightings", "before", "[I", true)
  | _ => ("HornTests$Sightings", "shown", "[I", true)
def tyX4 : Nat → FieldType := fun k => match k with
  | 0 => .int
  | 1 => .array .int
  | 2 => .array .int
  | 3 => .array .int
  | _ => .array .int
theorem nmX4 : ∀ a, a < 5 → ∀ b, b < 5 → a ≠ b → (TX4 a).2.1 ≠ (TX4 b).2.1 := by decide +kernel
theorem tyX4_ok : ∀ k, k < 5 → parseFieldDescriptor (TX4 k).2.2.1 = some (tyX4 k) := by decide +kernel
abbrev cX4_init : ByteArray := prog_6_method_1_code
def yX4_init : MethodName := ⟨RX4, "<init>", "()V"⟩
abbrev cX4_add : ByteArray := prog_6_method_2_code
def yX4_add : MethodName := ⟨RX4, "add", "(IIII)Z"⟩
abbrev cX4_kindsOf : ByteArray := prog_6_method_3_code
def yX4_kindsOf : MethodName := ⟨RX4, "kindsOf", "(I)I"⟩
def RX5 : String := "HornTests"
def TX5 : u_T := fun k => match k with
  | 0 => ("HornTests", "now", "LHornTests$Evening;", true)
  | 1 => ("HornTests", "trial", "LHornTests$Evening;", true)
  | 2 => ("HornTests", "firstImage", "LHornTests$Evening;", true)
  | 3 => ("HornTests", "secondImage", "LHornTests$Evening;", true)
  | 4 => ("HornTests", "kept", "[Z", true)
  | 5 => ("HornTests", "scribe", "LHornTests$Scribe;", true)
  | 6 => ("HornTests", "sightings", "LHornTests$Sightings;", true)
  | 7 => ("HornTests", "odds", "LHornTests$Odds;", true)
  | 8 => ("HornTests", "sheets", "LHornTests$Sheets;", true)
  | 9 => ("HornTests", "textFault", "I", false)
  | _ => ("HornTests", "readFault", "I", false)
def tyX5 : Nat → FieldType := fun k => match k with
  | 0 => .object "HornTests$Evening"
  | 1 => .object "HornTests$Evening"
  | 2 => .object "HornTests$Evening"
  | 3 => .object "HornTests$Evening"
  | 4 => .array .boolean
  | 5 => .object "HornTests$Scribe"
  | 6 => .object "HornTests$Sightings"
  | 7 => .object "HornTests$Odds"
  | 8 => .object "HornTests$Sheets"
  | 9 => .int
  | _ => .int
theorem nmX5 : ∀ a, a < 11 → ∀ b, b < 11 → a ≠ b → (TX5 a).2.1 ≠ (TX5 b).2.1 := by decide +kernel
theorem tyX5_ok : ∀ k, k < 11 → parseFieldDescriptor (TX5 k).2.2.1 = some (tyX5 k) := by decide +kernel
abbrev cX5_init : ByteArray := prog_1_method_1_code
def yX5_init : MethodName := ⟨RX5, "<init>", "()V"⟩
abbrev cX5_feed : ByteArray := prog_1_method_2_code
def yX5_feed : MethodName := ⟨RX5, "feed", "(I)I"⟩
abbrev cX5_end : ByteArray := prog_1_method_3_code
def yX5_end : MethodName := ⟨RX5, "end", "(I)I"⟩
abbrev cX5_text : ByteArray := prog_1_method_4_code
def yX5_text : MethodName := ⟨RX5, "text", "()I"⟩
abbrev cX5_fault : ByteArray := prog_1_method_5_code
def yX5_fault : MethodName := ⟨RX5, "fault", "()I"⟩
abbrev cX5_rule : ByteArray := prog_1_method_6_code
def yX5_rule : MethodName := ⟨RX5, "rule", "(I)I"⟩
abbrev cX5_test : ByteArray := prog_1_method_7_code
def yX5_test : MethodName := ⟨RX5, "test", "(II)I"⟩
abbrev cX5_act : ByteArray := prog_1_method_8_code
def yX5_act : MethodName := ⟨RX5, "act", "(I)I"⟩
abbrev cX5_alter : ByteArray := prog_1_method_9_code
def yX5_alter : MethodName := ⟨RX5, "alter", "(III)I"⟩
abbrev cX5_resize : ByteArray := prog_1_method_10_code
def yX5_resize : MethodName := ⟨RX5, "resize", "(II)I"⟩
abbrev cX5_replace : ByteArray := prog_1_method_11_code
def yX5_replace : MethodName := ⟨RX5, "replace", "([IIIII)I"⟩
abbrev cX5_strong : ByteArray := prog_1_method_12_code
def yX5_strong : MethodName := ⟨RX5, "strong", "(I)I"⟩
abbrev cX5_fill : ByteArray := prog_1_method_13_code
def yX5_fill : MethodName := ⟨RX5, "fill", "(I)I"⟩
abbrev cX5_plan : ByteArray := prog_1_method_14_code
def yX5_plan : MethodName := ⟨RX5, "plan", "(I)I"⟩
abbrev cX5_cut : ByteArray := prog_1_method_15_code
def yX5_cut : MethodName := ⟨RX5, "cut", "(I)I"⟩
abbrev cX5_pull : ByteArray := prog_1_method_16_code
def yX5_pull : MethodName := ⟨RX5, "pull", "(I)I"⟩
abbrev cX5_rest : ByteArray := prog_1_method_17_code
def yX5_rest : MethodName := ⟨RX5, "rest", "(I)I"⟩
abbrev cX5_runs : ByteArray := prog_1_method_18_code
def yX5_runs : MethodName := ⟨RX5, "runs", "(I)I"⟩
abbrev cX5_ahead : ByteArray := prog_1_method_19_code
def yX5_ahead : MethodName := ⟨RX5, "ahead", "(I)I"⟩
abbrev cX5_need : ByteArray := prog_1_method_20_code
def yX5_need : MethodName := ⟨RX5, "need", "(I)I"⟩
abbrev cX5_least : ByteArray := prog_1_method_21_code
def yX5_least : MethodName := ⟨RX5, "least", "(II)I"⟩
abbrev cX5_isWonBy : ByteArray := prog_1_method_22_code
def yX5_isWonBy : MethodName := ⟨RX5, "isWonBy", "(II)Z"⟩
abbrev cX5_best : ByteArray := prog_1_method_23_code
def yX5_best : MethodName := ⟨RX5, "best", "(II)I"⟩
abbrev cX5_bestRow : ByteArray := prog_1_method_24_code
def yX5_bestRow : MethodName := ⟨RX5, "bestRow", "(I)I"⟩
abbrev cX5_tryRow : ByteArray := prog_1_method_25_code
def yX5_tryRow : MethodName := ⟨RX5, "tryRow", "(II)V"⟩
abbrev cX5_actOfRow : ByteArray := prog_1_method_26_code
def yX5_actOfRow : MethodName := ⟨RX5, "actOfRow", "(III)I"⟩
abbrev cX5_hide : ByteArray := prog_1_method_27_code
def yX5_hide : MethodName := ⟨RX5, "hide", "(II)I"⟩
abbrev cX5_swap : ByteArray := prog_1_method_28_code
def yX5_swap : MethodName := ⟨RX5, "swap", "(I)I"⟩
abbrev cX5_laughsIfChanged : ByteArray := prog_1_method_29_code
def yX5_laughsIfChanged : MethodName := ⟨RX5, "laughsIfChanged", "(II)I"⟩
abbrev cX5_unmask : ByteArray := prog_1_method_30_code
def yX5_unmask : MethodName := ⟨RX5, "unmask", "(I)I"⟩
abbrev cX5_movedIfPlain : ByteArray := prog_1_method_31_code
def yX5_movedIfPlain : MethodName := ⟨RX5, "movedIfPlain", "(I)I"⟩
abbrev cX5_luck : ByteArray := prog_1_method_32_code
def yX5_luck : MethodName := ⟨RX5, "luck", "(IIII)J"⟩
abbrev cX5_mean : ByteArray := prog_1_method_33_code
def yX5_mean : MethodName := ⟨RX5, "mean", "(IIII)J"⟩
abbrev cX5_areOdds : ByteArray := prog_1_method_34_code
def yX5_areOdds : MethodName := ⟨RX5, "areOdds", "(IIII)Z"⟩
abbrev cX5_see : ByteArray := prog_1_method_35_code
def yX5_see : MethodName := ⟨RX5, "see", "(IIII)I"⟩
abbrev cX5_forget : ByteArray := prog_1_method_36_code
def yX5_forget : MethodName := ⟨RX5, "forget", "(I)I"⟩
abbrev cX5_kinds : ByteArray := prog_1_method_37_code
def yX5_kinds : MethodName := ⟨RX5, "kinds", "(I)I"⟩
abbrev cX5_ask : ByteArray := prog_1_method_38_code
def yX5_ask : MethodName := ⟨RX5, "ask", "(II)I"⟩
abbrev cX5_leftAtWorst : ByteArray := prog_1_method_39_code
def yX5_leftAtWorst : MethodName := ⟨RX5, "leftAtWorst", "(III)I"⟩
abbrev cX5_arms : ByteArray := prog_1_method_40_code
def yX5_arms : MethodName := ⟨RX5, "arms", "(IIII)I"⟩
abbrev cX5_drift : ByteArray := prog_1_method_41_code
def yX5_drift : MethodName := ⟨RX5, "drift", "(III)I"⟩
abbrev cX5_keep : ByteArray := prog_1_method_42_code
def yX5_keep : MethodName := ⟨RX5, "keep", "(I)I"⟩
abbrev cX5_back : ByteArray := prog_1_method_43_code
def yX5_back : MethodName := ⟨RX5, "back", "(I)I"⟩
abbrev cX5_imageAt : ByteArray := prog_1_method_44_code
def yX5_imageAt : MethodName := ⟨RX5, "imageAt", "(I)LHornTests$Evening;"⟩
abbrev cX5_sheet : ByteArray := prog_1_method_45_code
def yX5_sheet : MethodName := ⟨RX5, "sheet", "(III)I"⟩
abbrev cX5_lay : ByteArray := prog_1_method_46_code
def yX5_lay : MethodName := ⟨RX5, "lay", "(III)I"⟩
abbrev cX5_read : ByteArray := prog_1_method_47_code
def yX5_read : MethodName := ⟨RX5, "read", "(IIII)I"⟩
abbrev cX5_torn : ByteArray := prog_1_method_48_code
def yX5_torn : MethodName := ⟨RX5, "torn", "()I"⟩
abbrev cX5_count : ByteArray := prog_1_method_49_code
def yX5_count : MethodName := ⟨RX5, "count", "(I)I"⟩
abbrev cX5_within : ByteArray := prog_1_method_50_code
def yX5_within : MethodName := ⟨RX5, "within", "(III)Z"⟩
abbrev cX5_hasBit : ByteArray := prog_1_method_51_code
def yX5_hasBit : MethodName := ⟨RX5, "hasBit", "(II)Z"⟩
abbrev cX5_yieldBy : ByteArray := prog_1_method_52_code
def yX5_yieldBy : MethodName := ⟨RX5, "yieldBy", "(III)I"⟩
abbrev cX5_kindsThatYield : ByteArray := prog_1_method_53_code
def yX5_kindsThatYield : MethodName := ⟨RX5, "kindsThatYield", "(III)I"⟩
def RX6 : String := "HornTestsModel"
def TX6 : u_T := fun k => match k with
  | 0 => ("HornTestsModel", "state", "[I", true)
  | 1 => ("HornTestsModel", "testMany", "I", false)
  | 2 => ("HornTestsModel", "readPage", "[I", true)
  | 3 => ("HornTestsModel", "readTests", "I", false)
  | 4 => ("HornTestsModel", "toldOnce", "I", false)
  | 5 => ("HornTestsModel", "high", "I", false)
  | 6 => ("HornTestsModel", "tape", "[I", true)
  | 7 => ("HornTestsModel", "taped", "I", false)
  | 8 => ("HornTestsModel", "fault", "I", false)
  | 9 => ("HornTestsModel", "broken", "I", false)
  | 10 => ("HornTestsModel", "brokenAt", "I", false)
  | 11 => ("HornTestsModel", "spot", "I", false)
  | 12 => ("HornTestsModel", "here", "I", false)
  | 13 => ("HornTestsModel", "token", "I", false)
  | 14 => ("HornTestsModel", "value", "I", false)
  | 15 => ("HornTestsModel", "cuts", "[I", true)
  | 16 => ("HornTestsModel", "letters", "[I", true)
  | 17 => ("HornTestsModel", "firstNot", "I", false)
  | 18 => ("HornTestsModel", "seen", "[I", true)
  | 19 => ("HornTestsModel", "seenMany", "I", false)
  | 20 => ("HornTestsModel", "isKept", "[Z", true)
  | 21 => ("HornTestsModel", "lanes", "[I", true)
  | 22 => ("HornTestsModel", "lengths", "[I", true)
  | 23 => ("HornTestsModel", "cells", "[I", true)
  | _ => ("HornTestsModel", "torn", "I", false)
def tyX6 : Nat → FieldType := fun k => match k with
  | 0 => .array .int
  | 1 => .int
  | 2 => .array .int
  | 3 => .int
  | 4 => .int
  | 5 => .int
  | 6 => .array .int
  | 7 => .int
  | 8 => .int
  | 9 => .int
  | 10 => .int
  | 11 => .int
  | 12 => .int
  | 13 => .int
  | 14 => .int
  | 15 => .array .int
  | 16 => .array .int
  | 17 => .int
  | 18 => .array .int
  | 19 => .int
  | 20 => .array .boolean
  | 21 => .array .int
  | 22 => .array .int
  | 23 => .array .int
  | _ => .int
theorem nmX6 : ∀ a, a < 25 → ∀ b, b < 25 → a ≠ b → (TX6 a).2.1 ≠ (TX6 b).2.1 := by decide +kernel
theorem tyX6_ok : ∀ k, k < 25 → parseFieldDescriptor (TX6 k).2.2.1 = some (tyX6 k) := by decide +kernel
abbrev cX6_init : ByteArray := prog_8_method_1_code
def yX6_init : MethodName := ⟨RX6, "<init>", "()V"⟩
abbrev cX6_in : ByteArray := prog_8_method_3_code
def yX6_in : MethodName := ⟨RX6, "in", "(JJJ)Z"⟩
abbrev cX6_feed : ByteArray := prog_8_method_4_code
def yX6_feed : MethodName := ⟨RX6, "feed", "(I)I"⟩
abbrev cX6_end : ByteArray := prog_8_method_5_code
def yX6_end : MethodName := ⟨RX6, "end", "(I)I"⟩
abbrev cX6_byteAt : ByteArray := prog_8_method_6_code
def yX6_byteAt : MethodName := ⟨RX6, "byteAt", "(I)I"⟩
abbrev cX6_fails : ByteArray := prog_8_method_7_code
def yX6_fails : MethodName := ⟨RX6, "fails", "(I)V"⟩
abbrev cX6_nameHere : ByteArray := prog_8_method_8_code
def yX6_nameHere : MethodName := ⟨RX6, "nameHere", "()I"⟩
abbrev cX6_step : ByteArray := prog_8_method_9_code
def yX6_step : MethodName := ⟨RX6, "step", "()V"⟩
abbrev cX6_number : ByteArray := prog_8_method_10_code
def yX6_number : MethodName := ⟨RX6, "number", "(II)I"⟩
abbrev cX6_readPlan : ByteArray := prog_8_method_11_code
def yX6_readPlan : MethodName := ⟨RX6, "readPlan", "()V"⟩
abbrev cX6_readTest : ByteArray := prog_8_method_12_code
def yX6_readTest : MethodName := ⟨RX6, "readTest", "(I)V"⟩
abbrev cX6_readLine : ByteArray := prog_8_method_13_code
def yX6_readLine : MethodName := ⟨RX6, "readLine", "()V"⟩
abbrev cX6_text : ByteArray := prog_8_method_14_code
def yX6_text : MethodName := ⟨RX6, "text", "()I"⟩
abbrev cX6_fault : ByteArray := prog_8_method_15_code
def yX6_fault : MethodName := ⟨RX6, "fault", "()I"⟩
abbrev cX6_isTest : ByteArray := prog_8_method_16_code
def yX6_isTest : MethodName := ⟨RX6, "isTest", "(I)Z"⟩
abbrev cX6_yieldOf : ByteArray := prog_8_method_17_code
def yX6_yieldOf : MethodName := ⟨RX6, "yieldOf", "(III)I"⟩
abbrev cX6_strengthOn : ByteArray := prog_8_method_18_code
def yX6_strengthOn : MethodName := ⟨RX6, "strengthOn", "(I)I"⟩
abbrev cX6_yieldOn : ByteArray := prog_8_method_19_code
def yX6_yieldOn : MethodName := ⟨RX6, "yieldOn", "(II)I"⟩
abbrev cX6_isWon : ByteArray := prog_8_method_20_code
def yX6_isWon : MethodName := ⟨RX6, "isWon", "(II)Z"⟩
abbrev cX6_wonOn : ByteArray := prog_8_method_21_code
def yX6_wonOn : MethodName := ⟨RX6, "wonOn", "(I)I"⟩
abbrev cX6_movedOn : ByteArray := prog_8_method_22_code
def yX6_movedOn : MethodName := ⟨RX6, "movedOn", "(I)I"⟩
abbrev cX6_rule : ByteArray := prog_8_method_23_code
def yX6_rule : MethodName := ⟨RX6, "rule", "(I)I"⟩
abbrev cX6_test : ByteArray := prog_8_method_24_code
def yX6_test : MethodName := ⟨RX6, "test", "(II)I"⟩
abbrev cX6_act : ByteArray := prog_8_method_25_code
def yX6_act : MethodName := ⟨RX6, "act", "(I)I"⟩
abbrev cX6_puts : ByteArray := prog_8_method_26_code
def yX6_puts : MethodName := ⟨RX6, "puts", "(ZIII)I"⟩
abbrev cX6_alter : ByteArray := prog_8_method_27_code
def yX6_alter : MethodName := ⟨RX6, "alter", "(III)I"⟩
abbrev cX6_strong : ByteArray := prog_8_method_28_code
def yX6_strong : MethodName := ⟨RX6, "strong", "(I)I"⟩
abbrev cX6_fill : ByteArray := prog_8_method_29_code
def yX6_fill : MethodName := ⟨RX6, "fill", "(I)I"⟩
abbrev cX6_plan : ByteArray := prog_8_method_30_code
def yX6_plan : MethodName := ⟨RX6, "plan", "(I)I"⟩
abbrev cX6_cut : ByteArray := prog_8_method_31_code
def yX6_cut : MethodName := ⟨RX6, "cut", "(I)I"⟩
abbrev cX6_canPull : ByteArray := prog_8_method_32_code
def yX6_canPull : MethodName := ⟨RX6, "canPull", "(II)Z"⟩
abbrev cX6_pullsOn : ByteArray := prog_8_method_33_code
def yX6_pullsOn : MethodName := ⟨RX6, "pullsOn", "(IIZ)I"⟩
abbrev cX6_restsOn : ByteArray := prog_8_method_34_code
def yX6_restsOn : MethodName := ⟨RX6, "restsOn", "(I)V"⟩
abbrev cX6_actsOn : ByteArray := prog_8_method_35_code
def yX6_actsOn : MethodName := ⟨RX6, "actsOn", "(II)Z"⟩
abbrev cX6_pulls : ByteArray := prog_8_method_36_code
def yX6_pulls : MethodName := ⟨RX6, "pulls", "(I)I"⟩
abbrev cX6_pull : ByteArray := prog_8_method_37_code
def yX6_pull : MethodName := ⟨RX6, "pull", "(I)I"⟩
abbrev cX6_rest : ByteArray := prog_8_method_38_code
def yX6_rest : MethodName := ⟨RX6, "rest", "(I)I"⟩
abbrev cX6_copies : ByteArray := prog_8_method_39_code
def yX6_copies : MethodName := ⟨RX6, "copies", "(II)V"⟩
abbrev cX6_planGoes : ByteArray := prog_8_method_40_code
def yX6_planGoes : MethodName := ⟨RX6, "planGoes", "(I)V"⟩
abbrev cX6_laughsMore : ByteArray := prog_8_method_41_code
def yX6_laughsMore : MethodName := ⟨RX6, "laughsMore", "()I"⟩
abbrev cX6_runs : ByteArray := prog_8_method_42_code
def yX6_runs : MethodName := ⟨RX6, "runs", "(I)I"⟩
abbrev cX6_ahead : ByteArray := prog_8_method_43_code
def yX6_ahead : MethodName := ⟨RX6, "ahead", "(I)I"⟩
abbrev cX6_aloneBy : ByteArray := prog_8_method_44_code
def yX6_aloneBy : MethodName := ⟨RX6, "aloneBy", "(I)I"⟩
abbrev cX6_need : ByteArray := prog_8_method_45_code
def yX6_need : MethodName := ⟨RX6, "need", "(I)I"⟩
abbrev cX6_least : ByteArray := prog_8_method_46_code
def yX6_least : MethodName := ⟨RX6, "least", "(II)I"⟩
abbrev cX6_bitsOf : ByteArray := prog_8_method_47_code
def yX6_bitsOf : MethodName := ⟨RX6, "bitsOf", "(I)I"⟩
abbrev cX6_powerOf : ByteArray := prog_8_method_48_code
def yX6_powerOf : MethodName := ⟨RX6, "powerOf", "(I)I"⟩
abbrev cX6_figureOf : ByteArray := prog_8_method_49_code
def yX6_figureOf : MethodName := ⟨RX6, "figureOf", "(III)I"⟩
abbrev cX6_rowGoes : ByteArray := prog_8_method_50_code
def yX6_rowGoes : MethodName := ⟨RX6, "rowGoes", "(II)Z"⟩
abbrev cX6_best : ByteArray := prog_8_method_51_code
def yX6_best : MethodName := ⟨RX6, "best", "(II)I"⟩
abbrev cX6_hide : ByteArray := prog_8_method_52_code
def yX6_hide : MethodName := ⟨RX6, "hide", "(II)I"⟩
abbrev cX6_swap : ByteArray := prog_8_method_53_code
def yX6_swap : MethodName := ⟨RX6, "swap", "(I)I"⟩
abbrev cX6_unmask : ByteArray := prog_8_method_54_code
def yX6_unmask : MethodName := ⟨RX6, "unmask", "(I)I"⟩
abbrev cX6_lowest : ByteArray := prog_8_method_55_code
def yX6_lowest : MethodName := ⟨RX6, "lowest", "(JJI)J"⟩
abbrev cX6_bySlips : ByteArray := prog_8_method_56_code
def yX6_bySlips : MethodName := ⟨RX6, "bySlips", "(IIIZI)J"⟩
abbrev cX6_isAsked : ByteArray := prog_8_method_57_code
def yX6_isAsked : MethodName := ⟨RX6, "isAsked", "(IIII)Z"⟩
abbrev cX6_luck : ByteArray := prog_8_method_58_code
def yX6_luck : MethodName := ⟨RX6, "luck", "(IIII)J"⟩
abbrev cX6_mean : ByteArray := prog_8_method_59_code
def yX6_mean : MethodName := ⟨RX6, "mean", "(IIII)J"⟩
abbrev cX6_see : ByteArray := prog_8_method_60_code
def yX6_see : MethodName := ⟨RX6, "see", "(IIII)I"⟩
abbrev cX6_forget : ByteArray := prog_8_method_61_code
def yX6_forget : MethodName := ⟨RX6, "forget", "(I)I"⟩
abbrev cX6_kindsOf : ByteArray := prog_8_method_62_code
def yX6_kindsOf : MethodName := ⟨RX6, "kindsOf", "(I)I"⟩
abbrev cX6_kinds : ByteArray := prog_8_method_63_code
def yX6_kinds : MethodName := ⟨RX6, "kinds", "(I)I"⟩
abbrev cX6_ask : ByteArray := prog_8_method_64_code
def yX6_ask : MethodName := ⟨RX6, "ask", "(II)I"⟩
abbrev cX6_arms : ByteArray := prog_8_method_65_code
def yX6_arms : MethodName := ⟨RX6, "arms", "(IIII)I"⟩
abbrev cX6_drift : ByteArray := prog_8_method_66_code
def yX6_drift : MethodName := ⟨RX6, "drift", "(III)I"⟩
abbrev cX6_keep : ByteArray := prog_8_method_67_code
def yX6_keep : MethodName := ⟨RX6, "keep", "(I)I"⟩
abbrev cX6_back : ByteArray := prog_8_method_68_code
def yX6_back : MethodName := ⟨RX6, "back", "(I)I"⟩
abbrev cX6_sheet : ByteArray := prog_8_method_69_code
def yX6_sheet : MethodName := ⟨RX6, "sheet", "(III)I"⟩
abbrev cX6_lay : ByteArray := prog_8_method_70_code
def yX6_lay : MethodName := ⟨RX6, "lay", "(III)I"⟩
abbrev cX6_read : ByteArray := prog_8_method_71_code
def yX6_read : MethodName := ⟨RX6, "read", "(IIII)I"⟩
abbrev cX6_torn : ByteArray := prog_8_method_72_code
def yX6_torn : MethodName := ⟨RX6, "torn", "()I"⟩
abbrev cX6_count : ByteArray := prog_8_method_73_code
def yX6_count : MethodName := ⟨RX6, "count", "(I)I"⟩
def RJ6 : String := "java/lang/Integer"
abbrev cJ6_bitCount_0f7a4 : ByteArray := prog_9_method_49_code
def yJ6_bitCount_0f7a4 : MethodName := ⟨RJ6, "bitCount", "(I)I"⟩
def RJ9 : String := "java/lang/Math"
abbrev cJ9_max_7cf53 : ByteArray := prog_10_method_65_code
def yJ9_max_7cf53 : MethodName := ⟨RJ9, "max", "(II)I"⟩
abbrev cJ9_min_7cf53 : ByteArray := prog_10_method_69_code
def yJ9_min_7cf53 : MethodName := ⟨RJ9, "min", "(II)I"⟩
def RJ0 : String := "java/lang/String"
abbrev cJ0_length_8abf5 : ByteArray := prog_11_method_54_code
def yJ0_length_8abf5 : MethodName := ⟨RJ0, "length", "()I"⟩
abbrev cJ0_charAt_5068e : ByteArray := prog_11_method_56_code
def yJ0_charAt_5068e : MethodName := ⟨RJ0, "charAt", "(I)C"⟩
abbrev cJ0_coder_7d493 : ByteArray := prog_11_method_152_code
def yJ0_coder_7d493 : MethodName := ⟨RJ0, "coder", "()B"⟩
abbrev cJ0_isLatin1_aae02 : ByteArray := prog_11_method_154_code
def yJ0_isLatin1_aae02 : MethodName := ⟨RJ0, "isLatin1", "()Z"⟩
abbrev cJ0_checkIndex_df160 : ByteArray := prog_11_method_155_code
def yJ0_checkIndex_df160 : MethodName := ⟨RJ0, "checkIndex", "(II)V"⟩
def RJ1 : String := "java/lang/StringLatin1"
abbrev cJ1_charAt_3b067 : ByteArray := prog_12_method_2_code
def yJ1_charAt_3b067 : MethodName := ⟨RJ1, "charAt", "([BI)C"⟩
def RJ2 : String := "java/lang/StringUTF16"
abbrev cJ2_getChar_3b067 : ByteArray := prog_13_method_5_code
def yJ2_getChar_3b067 : MethodName := ⟨RJ2, "getChar", "([BI)C"⟩
abbrev cJ2_length_9d52b : ByteArray := prog_13_method_6_code
def yJ2_length_9d52b : MethodName := ⟨RJ2, "length", "([B)I"⟩
abbrev cJ2_charAt_3b067 : ByteArray := prog_13_method_83_code
def yJ2_charAt_3b067 : MethodName := ⟨RJ2, "charAt", "([BI)C"⟩
abbrev cJ2_checkIndex_2214a : ByteArray := prog_13_method_91_code
def yJ2_checkIndex_2214a : MethodName := ⟨RJ2, "checkIndex", "(I[B)V"⟩
def RJ10 : String := "java/lang/System"
def RJ3 : String := "jdk/internal/util/Preconditions"
abbrev cJ3_checkIndex_8e157 : ByteArray := prog_15_method_11_code
def yJ3_checkIndex_8e157 : MethodName := ⟨RJ3, "checkIndex", "(IILjava/util/function/BiFunction;)I"⟩
def RL : String := "HornTestsLaw"
abbrev cL_law : ByteArray := code
def yL_law : MethodName := ⟨RL, "law", "([I)Z"⟩
abbrev vwCl : List vw_C := [(RX0, TX0, 9), (RX1, TX1, 3), (RX2, TX2, 11), (RX3, TX3, 3), (RX4, TX4, 5), (RX5, TX5, 11), (RX6, TX6, 25)]
end
section
/-! what a text's tokens are, over a tape g of n bytes: places from p on -/
def tp_i (x lo hi : Int) : Bool := decide (lo ≤ x) && decide (x ≤ hi)
theorem tp_i_iff {x lo hi : Int} : tp_i x lo hi = true ↔ lo ≤ x ∧ x ≤ hi := by
  unfold tp_i
  rw [Bool.and_eq_true, decide_eq_true_eq, decide_eq_true_eq]
/-- the first place from p on, below n, that has no byte of lo to hi (n - p steps at most) -/
def tp_sk (g : Nat → Int) (lo hi : Int) : Nat → Nat → Nat
  | 0, p => p
  | f + 1, p => if tp_i (g p) lo hi = true then tp_sk g lo hi f (p + 1) else p
def tp_skip (g : Nat → Int) (n : Nat) (lo hi : Int) (p : Nat) : Nat := tp_sk g lo hi (n - p) p
theorem tp_skip_in {g : Nat → Int} {n p : Nat} {lo hi : Int} (h : p < n) (h1 : lo ≤ g p) (h2 : g p ≤ hi) : tp_skip g n lo hi p = tp_skip g n lo hi (p + 1) := by
  unfold tp_skip
  rw [show n - p = (n - (p + 1)) + 1 by omega]
  show (if tp_i (g p) lo hi = true then tp_sk g lo hi (n - (p + 1)) (p + 1) else p) = _
  rw [if_pos (tp_i_iff.mpr ⟨h1, h2⟩)]
theorem tp_skip_out {g : Nat → Int} {n p : Nat} {lo hi : Int} (h : n ≤ p ∨ g p < lo ∨ hi < g p) : tp_skip g n lo hi p = p := by
  unfold tp_skip
  by_cases hp : n ≤ p
  · rw [show n - p = 0 by omega]
    rfl
  · rw [show n - p = (n - (p + 1)) + 1 by omega]
    show (if tp_i (g p) lo hi = true then tp_sk g lo hi (n - (p + 1)) (p + 1) else p) = _
    rw [if_neg (fun hc => by have := tp_i_iff.mp hc; omega)]
theorem tp_sk_le {g : Nat → Int} {lo hi : Int} : ∀ (f p : Nat), p ≤ tp_sk g lo hi f p ∧ tp_sk g lo hi f p ≤ p + f
  | 0, p => ⟨Nat.le_refl _, Nat.le_refl _⟩
  | f + 1, p => by
    show p ≤ (if tp_i (g p) lo hi = true then tp_sk g lo hi f (p + 1) else p) ∧ (if tp_i (g p) lo hi = true then tp_sk g lo hi f (p + 1) else p) ≤ p + (f + 1)
    split
    · have := tp_sk_le (g := g) (lo := lo) (hi := hi) f (p + 1)
      omega
    · omega
theorem tp_skip_le {g : Nat → Int} {n p : Nat} {lo hi : Int} : p ≤ tp_skip g n lo hi p ∧ (p ≤ n → tp_skip g n lo hi p ≤ n) := by
  have := tp_sk_le (g := g) (lo := lo) (hi := hi) (n - p) p
  unfold tp_skip
  omega
def tp_num (g : Nat → Int) (f e : Nat) : Int := if e ≤ f then 0 else if e = f + 1 then g f - 48 else 10 * (g f - 48) + (g (f + 1) - 48)
/-- kind (0 the end, 1 a NAME, 2 a NUMBER, 3 a stop, 4 none), its first byte, the byte behind it, its number -/
def sp_tok (g : Nat → Int) (n p : Nat) : Nat × Nat × Nat × Int :=
  if n ≤ tp_skip g n 32 32 p then (0, tp_skip g n 32 32 p, tp_skip g n 32 32 p, 0)
  else if g (tp_skip g n 32 32 p) = 59 then (3, tp_skip g n 32 32 p, tp_skip g n 32 32 p + 1, 0)
  else if tp_i (g (tp_skip g n 32 32 p)) 97 122 = true then (1, tp_skip g n 32 32 p, tp_skip g n 97 122 (tp_skip g n 32 32 p), 0)
  else if tp_i (g (tp_skip g n 32 32 p)) 48 57 = true then
    (if 2 < tp_skip g n 48 57 (tp_skip g n 32 32 p) - tp_skip g n 32 32 p then (4, tp_skip g n 32 32 p, tp_skip g n 48 57 (tp_skip g n 32 32 p), 0)
     else (2, tp_skip g n 32 32 p, tp_skip g n 48 57 (tp_skip g n 32 32 p), tp_num g (tp_skip g n 32 32 p) (tp_skip g n 48 57 (tp_skip g n 32 32 p))))
  else (4, tp_skip g n 32 32 p, tp_skip g n 32 32 p, 0)
/-- the words, and which one stands from f to e (7: none) -/
def sp_W : List (List Int) := [[112, 108, 97, 105, 110], [115, 110, 97, 107, 101], [115, 101, 97], [97, 103, 101], [103, 117, 101, 115, 116], [108, 97, 117, 103, 104, 115], [112, 108, 97, 110]]
def sp_is (g : Nat → Int) (f e : Nat) (w : List Int) : Bool := decide (e - f = w.length) && (List.range w.length).all fun k => decide (w[k]? = some (g (f + k)))
def sp_word (g : Nat → Int) (f e : Nat) : Nat := (sp_W.findIdx? (sp_is g f e)).getD 7
/-- the int at a place of a row of ints, in a world -/
def fx_o (w : va_W) (c i : Nat) : Option Int := match w[c]? with
  | some (_, .inl (_, n, .inl f)) => if i < n then some (f i).toInt else none
  | _ => none
def fx_at (w : va_W) (c i : Nat) : Int := (fx_o w c i).getD 0
/-- a plan's numbers from a token on: how it ends (0 another token, 5 a 9th act, 3 out of bounds), the acts, the token there -/
def sp_plan (g : Nat → Int) (n : Nat) : Nat → Nat × Nat × Nat × Int → List Int → Nat × List Int × (Nat × Nat × Nat × Int)
  | 0, tk, as => (0, as, tk)
  | f + 1, tk, as => if tk.1 = 2 then (if 8 ≤ as.length then (5, as, tk) else if tp_i tk.2.2.2 0 4 = true then sp_plan g n f (sp_tok g n tk.2.2.1) (as ++ [tk.2.2.2]) else (3, as, tk)) else (0, as, tk)
/-- the highest act below 4 (-1: none) -/
def sp_high (as : List Int) : Int := as.foldl (fun h a => if a < 4 ∧ h < a then a else h) (-1)
/-- the tape of a world: row 27 -/
def fx_tape (w0 : va_W) (g : Nat → Int) : Prop := ∀ i, i < 160 → fx_o w0 27 i = some (g i)
def fx_lo (j : Nat) : Int := if j = 0 then 32 else if j = 1 then 97 else 48
def fx_hi (j : Nat) : Int := if j = 0 then 32 else if j = 1 then 122 else 57
/-- what is wrong with a token that isn't the one asked for -/
def sp_ft (k : Nat) : Nat := if k = 4 then 1 else 2
abbrev sp_T : Type := Nat × Nat × Nat × Int
/-- between two lines: the token, how many tests, what is told (bits 4, 5, 6), the acts -/
abbrev sp_S : Type := sp_T × Nat × Nat × List Int
abbrev sp_R : Type := (Nat × Nat) ⊕ sp_S
/-- a line's end: a stop, or a fault (what, where) -/
def sp_stop (g : Nat → Int) (n tests told : Nat) (as : List Int) (tk : sp_T) : sp_R :=
  if tk.1 = 3 then .inr (sp_tok g n tk.2.2.1, tests, told, as) else .inl (sp_ft tk.1, tk.2.1)
def sp_t3 (g : Nat → Int) (n tests told : Nat) (as : List Int) (t3 : sp_T) : sp_R :=
  if t3.1 = 2 then (if 0 ≤ t3.2.2.2 ∧ t3.2.2.2 ≤ 99 then sp_stop g n tests told as (sp_tok g n t3.2.2.1) else .inl (3, t3.2.1)) else sp_stop g n tests told as t3
def sp_t2 (g : Nat → Int) (n tests told : Nat) (as : List Int) (size : Int) (t2 : sp_T) : sp_R :=
  if t2.1 = 2 then (if 0 ≤ t2.2.2.2 ∧ t2.2.2.2 ≤ size then sp_t3 g n tests told as (sp_tok g n t2.2.2.1) else .inl (3, t2.2.1)) else sp_stop g n tests told as t2
def sp_t1 (g : Nat → Int) (n tests told : Nat) (as : List Int) (t1 : sp_T) : sp_R :=
  if t1.1 = 2 then (if 1 ≤ t1.2.2.2 ∧ t1.2.2.2 ≤ 99 then sp_t2 g n (tests + 1) told as t1.2.2.2 (sp_tok g n t1.2.2.1) else .inl (3, t1.2.1)) else .inl (sp_ft t1.1, t1.2.1)
def sp_o1 (g : Nat → Int) (n tests told : Nat) (as : List Int) (most : Int) (t1 : sp_T) : sp_R :=
  if t1.1 = 2 then (if 0 ≤ t1.2.2.2 ∧ t1.2.2.2 ≤ most then sp_stop g n tests told as (sp_tok g n t1.2.2.1) else .inl (3, t1.2.1)) else .inl (sp_ft t1.1, t1.2.1)
def sp_p1 (g : Nat → Int) (n tests told : Nat) (pl : Nat × List Int × sp_T) : sp_R :=
  if pl.1 = 0 then sp_stop g n tests told pl.2.1 pl.2.2 else .inl (pl.1, pl.2.2.2.1)
def sp_word1 (g : Nat → Int) (n w : Nat) (S : sp_S) : sp_R :=
  if w = 7 then .inl (2, S.1.2.1)
  else if w < 4 then (if 4 ≤ S.2.1 then .inl (5, S.1.2.1) else sp_t1 g n S.2.1 S.2.2.1 S.2.2.2 (sp_tok g n S.1.2.2.1))
  else if S.2.2.1 / 2 ^ w % 2 = 1 then .inl (4, S.1.2.1)
  else if w = 6 then sp_p1 g n S.2.1 (S.2.2.1 + 2 ^ w) (sp_plan g n 9 (sp_tok g n S.1.2.2.1) [])
  else sp_o1 g n S.2.1 (S.2.2.1 + 2 ^ w) S.2.2.2 (if w = 4 then 20 else 99) (sp_tok g n S.1.2.2.1)
def sp_line (g : Nat → Int) (n : Nat) (S : sp_S) : sp_R :=
  if S.1.1 = 1 then sp_word1 g n (sp_word g S.1.2.1 S.1.2.2.1) S else .inl (sp_ft S.1.1, S.1.2.1)
/-- all lines: a fault, or what there is at the end and how many lines -/
def sp_run (g : Nat → Int) (n : Nat) : Nat → Nat → sp_S → (Nat × Nat) ⊕ (sp_S × Nat)
  | 0, l, S => .inr (S, l)
  | f + 1, l, S => if S.1.1 = 0 then .inr (S, l) else match sp_line g n S with
    | .inl x => .inl x
    | .inr S' => sp_run g n f (l + 1) S'
/-- the fault of a text (0: none), its place, its lines -/
def sp_text (g : Nat → Int) (n : Nat) : Nat × Nat × Nat := match sp_run g n 161 0 (sp_tok g n 0, 0, 0, []) with
  | .inl x => (x.1, x.2, 0)
  | .inr (S, l) => if (S.2.1 : Int) ≤ sp_high S.2.2.2 then (6, n, 0) else (0, 0, l)
def sp_ret (g : Nat → Int) (n : Nat) : Int := if (sp_text g n).1 = 0 then ((sp_text g n).2.2 : Int) else -10 - ((sp_text g n).2.1 : Int)
/-- a plan's end (400 + 10 * t + k, f, n, h, k0): h the highest act, h + 1, h + 2, h + 3 the token there, of kind k; (499, n, n, v, 0): v is what a text of n bytes answers -/
def fx_ps (g : Nat → Int) (r : List Int) (q : Nat × Nat × Nat × Nat × Int) : Prop :=
  if q.1 = 499 then ∃ zn zr : Int, r[q.2.1]? = some zn ∧ r[q.2.2.2.1]? = some zr ∧ 0 ≤ zn ∧ zr = sp_ret g zn.toNat
  else ∃ (zf ze zv zn zh yf ye yv : Int) (as : List Int), r[q.2.1]? = some zf ∧ r[q.2.1 + 1]? = some ze ∧ r[q.2.1 + 2]? = some zv ∧ r[q.2.2.1]? = some zn ∧ r[q.2.2.2.1]? = some zh ∧ r[q.2.2.2.1 + 1]? = some yf ∧ r[q.2.2.2.1 + 2]? = some ye ∧ r[q.2.2.2.1 + 3]? = some yv ∧ 0 ≤ zf ∧ 0 ≤ ze ∧ 0 ≤ yf ∧ 0 ≤ ye ∧ zh = sp_high as ∧
    sp_plan g zn.toNat 9 (q.2.2.2.2.toNat, zf.toNat, ze.toNat, zv) [] = ((q.1 - 400) / 10, as, ((q.1 - 400) % 10, yf.toNat, ye.toNat, yv))
/-- ghost facts over the tape g, of names r: (300 + k, p, n, f, o) the token at p and o (n bytes) is of kind k, its from, next, number are the names f, f + 1, f + 2; (310 + w, f, e, e, 0) the word from f to e is w (4 to 7), (310, f, e, v, 0) it is v, below 4; (320 + j, p, n, v, o) v is where bytes of sort j (0 blanks, 1 letters, 2 figures) end from p and o on; (330, f, e, v, 0) the number of the figures from f to e is v; (400 + 10 * t + k, f, n, h, k0) the plan that begins with the token (k0, f, f + 1, f + 2) ends as t; how many acts: h, the acts h + 1 .. h + 8, the highest h + 9, the token there of kind k, h + 10, h + 11, h + 12 -/
def fx_sem (g : Nat → Int) (r : List Int) (q : Nat × Nat × Nat × Nat × Int) : Prop :=
  (300 ≤ q.1 → q.1 < 305 → ∃ za zn zf ze zv : Int, r[q.2.1]? = some za ∧ r[q.2.2.1]? = some zn ∧ r[q.2.2.2.1]? = some zf ∧ r[q.2.2.2.1 + 1]? = some ze ∧ r[q.2.2.2.1 + 2]? = some zv ∧ 0 ≤ za + q.2.2.2.2 ∧ 0 ≤ zf ∧ 0 ≤ ze ∧ sp_tok g zn.toNat (za + q.2.2.2.2).toNat = (q.1 - 300, zf.toNat, ze.toNat, zv)) ∧
  (310 ≤ q.1 → q.1 < 318 → ∃ zf ze : Int, r[q.2.1]? = some zf ∧ r[q.2.2.1]? = some ze ∧ 0 ≤ zf ∧ 0 ≤ ze ∧ (if q.1 = 310 then ∃ zw : Int, r[q.2.2.2.1]? = some zw ∧ zw = ((sp_word g zf.toNat ze.toNat : Nat) : Int) ∧ zw < 4 else sp_word g zf.toNat ze.toNat = q.1 - 310)) ∧
  (320 ≤ q.1 → q.1 < 323 → ∃ za zn zr : Int, r[q.2.1]? = some za ∧ r[q.2.2.1]? = some zn ∧ r[q.2.2.2.1]? = some zr ∧ 0 ≤ za + q.2.2.2.2 ∧ 0 ≤ zr ∧ zr.toNat = tp_skip g zn.toNat (fx_lo (q.1 - 320)) (fx_hi (q.1 - 320)) (za + q.2.2.2.2).toNat) ∧
  (400 ≤ q.1 → q.1 < 500 → fx_ps g r q) ∧
  (q.1 = 330 → ∃ zf ze zv : Int, r[q.2.1]? = some zf ∧ r[q.2.2.1]? = some ze ∧ r[q.2.2.2.1]? = some zv ∧ 0 ≤ zf ∧ 0 ≤ ze ∧ zv = tp_num g zf.toNat ze.toNat)
/-- bits: (100 + w, a, a, v, 0) v is a shifted down by w; (200 + w, a, a, v, o) v and o is the bit w of a; products: (500 + k, a, a, v, o) v is k times a and o; (140, a, b, a, o) a isn't b and o -/
def fx_bit (r : List Int) (q : Nat × Nat × Nat × Nat × Int) : Prop := ∃ za zr : Int, r[q.2.1]? = some za ∧ r[q.2.2.2.1]? = some zr ∧ (q.1 < 132 → zr = za / 2 ^ (q.1 - 100)) ∧ (200 ≤ q.1 → q.1 < 232 → zr + q.2.2.2.2 = za / 2 ^ (q.1 - 200) % 2) ∧ (500 ≤ q.1 → zr = ((q.1 - 500 : Nat) : Int) * (za + q.2.2.2.2)) ∧ (q.1 = 140 → ∃ zb : Int, r[q.2.2.1]? = some zb ∧ za ≠ zb + q.2.2.2.2)
end
section
/-! AN INTERPRETER OF BOUNDS over the machine: values are names with offsets, names have bounds; cells have fixed kinds. -/
abbrev ai_v : Type := Nat × Nat × Nat × Int
abbrev ai_e : Type := Int × Int × Bool × Nat × Int
abbrev ai_k : Type := Nat × Nat × ai_v
/-- what is told of three names a, b, r: (0, ..) a less b is r and o; (1, ..) a and b and o is r, but for turns of 2^32; (2, ..) a and b and o is r; (4, ..) a is less than b and o; (5, ..) a isn't -/
abbrev ai_b : Type := Nat × Nat × Nat × Nat × Int
abbrev ai_s : Type := Nat × List (Nat × ai_v) × List ai_v × List ai_e × List ai_k × List ai_b
abbrev ai_c : Type := Nat × Nat × List (Nat × Nat × Int × Int)
/-- what a value is: 0 a cell, 1 an int, 2 a long, 3 how two longs compare, 4 the script -/
def ai_dv (ad : List Nat) (b : Nat) (r : List Int) (v : ai_v) (x : Value) : Prop :=
  (v.1 = 0 ∧ ∃ q, ad[v.2.1]? = some q ∧ x = .ref q) ∨
  (v.1 = 1 ∧ ∃ (z : Int) (i : Int32), r[v.2.1]? = some z ∧ x = .int i ∧ i.toInt = z + v.2.2.2) ∨
  (v.1 = 2 ∧ ∃ (z : Int) (i : Int64), r[v.2.1]? = some z ∧ x = .long i ∧ i.toInt = z + v.2.2.2) ∨
  (v.1 = 3 ∧ ∃ (z w : Int) (i : Int32), r[v.2.1]? = some z ∧ r[v.2.2.1]? = some w ∧ x = .int i ∧ (i < 0 ↔ z < w + v.2.2.2) ∧ (i = 0 ↔ z = w + v.2.2.2)) ∨
  (v.1 = 4 ∧ x = .ref b)
def ai_oe (r : List Int) (z : Int) (e : ai_e) : Prop := e.1 ≤ z ∧ z ≤ e.2.1 ∧ (e.2.2.1 = true → z ≠ 0) ∧ ∃ w, r[e.2.2.2.1]? = some w ∧ w + e.2.2.2.2 ≤ z
def ai_ok (r : List Int) (en : List ai_e) : Prop := r.length = en.length ∧ ∀ (k : Nat) (z : Int) (e : ai_e), r[k]? = some z → en[k]? = some e → ai_oe r z e
/-- a ghost fact: (1000 + c, p, p, v, o) the place p and o of row c, in the world w0, has v; bits; what fx_sem says, over w0's tape; (350, n, n, n, 0) the two tapes (rows 27, 52) are alike below n -/
def fx_fact (w0 : va_W) (r : List Int) (q : ai_b) : Prop :=
  (1000 ≤ q.1 → ∃ za zr : Int, r[q.2.1]? = some za ∧ r[q.2.2.2.1]? = some zr ∧ 0 ≤ za + q.2.2.2.2 ∧ ∀ t, fx_o w0 (q.1 - 1000) (za + q.2.2.2.2).toNat = some t → zr = t) ∧ (q.1 < 300 ∨ (500 ≤ q.1 ∧ q.1 < 1000) → fx_bit r q) ∧ (∀ g : Nat → Int, fx_tape w0 g → fx_sem g r q) ∧ (q.1 = 350 → ∃ (zn : Int) (g : Nat → Int), r[q.2.1]? = some zn ∧ fx_tape w0 g ∧ ∀ i, i < zn.toNat → fx_o w0 52 i = some (g i))
def ai_sb (w0 : va_W) (r : List Int) (sb : List ai_b) : Prop := ∀ q ∈ sb, ∃ za zb zr : Int, r[q.2.1]? = some za ∧ r[q.2.2.1]? = some zb ∧ r[q.2.2.2.1]? = some zr ∧ (q.1 = 0 → za - zb = zr + q.2.2.2.2) ∧ (q.1 = 1 → (za + zb + q.2.2.2.2 - zr) % 4294967296 = 0) ∧ (q.1 = 2 → za + zb + q.2.2.2.2 = zr) ∧ (q.1 = 4 → za < zb + q.2.2.2.2) ∧ (q.1 = 5 → zb + q.2.2.2.2 ≤ za) ∧ (100 ≤ q.1 → fx_fact w0 r q)
theorem ai_beq {a b : Nat} : Nat.beq a b = true ↔ a = b := ⟨Nat.eq_of_beq_eq_true, fun h => by subst h; exact Nat.beq_refl a⟩
def ai_x (r r' : List Int) : Prop := ∃ t, r' = r ++ t
theorem ai_x.rf {r : List Int} : ai_x r r := ⟨[], by simp⟩
theorem ai_x.tr {a b c : List Int} (h : ai_x a b) (k : ai_x b c) : ai_x a c := by
  obtain ⟨t, rfl⟩ := h
  obtain ⟨u, rfl⟩ := k
  exact ⟨t ++ u, by simp⟩
theorem ai_x.push {r : List Int} {z : Int} : ai_x r (r ++ [z]) := ⟨[z], rfl⟩
theorem ai_x.at {r r' : List Int} (h : ai_x r r') {k : Nat} {z : Int} (hk : r[k]? = some z) : r'[k]? = some z := by
  obtain ⟨t, rfl⟩ := h
  rw [List.getElem?_append_left (List.getElem?_eq_some_iff.mp hk).1]
  exact hk
theorem ai_dv.mono {ad : List Nat} {b : Nat} {r r' : List Int} {v : ai_v} {x : Value} (h : ai_dv ad b r v x) (e : ai_x r r') : ai_dv ad b r' v x := by
  rcases h with h | ⟨h, z, i, h1, h2⟩ | ⟨h, z, i, h1, h2⟩ | ⟨h, z, w, i, h1, h2, h3⟩ | h
  · exact Or.inl h
  · exact Or.inr (Or.inl ⟨h, z, i, e.at h1, h2⟩)
  · exact Or.inr (Or.inr (Or.inl ⟨h, z, i, e.at h1, h2⟩))
  · exact Or.inr (Or.inr (Or.inr (Or.inl ⟨h, z, w, i, e.at h1, e.at h2, h3⟩)))
  · exact Or.inr (Or.inr (Or.inr (Or.inr h)))
theorem fx_fact.mono {w0 : va_W} {r r' : List Int} {q : ai_b} (h : fx_fact w0 r q) (e : ai_x r r') : fx_fact w0 r' q := by
  obtain ⟨h1, h2, h3, h4⟩ := h
  refine ⟨fun a => ?_, fun a => ?_, fun g hg => ?_, fun a => ?_⟩
  · obtain ⟨za, zr, e1, e2, e3⟩ := h1 a
    exact ⟨za, zr, e.at e1, e.at e2, e3⟩
  · obtain ⟨za, zr, e1, e2, e3, e4, e5, e6⟩ := h2 a
    refine ⟨za, zr, e.at e1, e.at e2, e3, e4, e5, fun h => ?_⟩
    obtain ⟨zb, x1, x2⟩ := e6 h
    exact ⟨zb, e.at x1, x2⟩
  · obtain ⟨k1, k2, k3, k4, k5⟩ := h3 g hg
    refine ⟨fun a b => ?_, fun a b => ?_, fun a b => ?_, fun a b => ?_, fun a => ?_⟩
    · obtain ⟨za, zn, zf, ze, zv, e1, e2, e3, e4, e5, e6⟩ := k1 a b
      exact ⟨za, zn, zf, ze, zv, e.at e1, e.at e2, e.at e3, e.at e4, e.at e5, e6⟩
    · obtain ⟨zf, ze, e1, e2, e3, e4, e5⟩ := k2 a b
      refine ⟨zf, ze, e.at e1, e.at e2, e3, e4, ?_⟩
      by_cases hq : q.1 = 310
      · rw [if_pos hq] at e5 ⊢
        obtain ⟨zw, e6, e7⟩ := e5
        exact ⟨zw, e.at e6, e7⟩
      · rw [if_neg hq] at e5 ⊢
        exact e5
    · obtain ⟨za, zn, zr, e1, e2, e3, e4⟩ := k3 a b
      exact ⟨za, zn, zr, e.at e1, e.at e2, e.at e3, e4⟩
    · have k6 := k4 a b
      unfold fx_ps at k6 ⊢
      by_cases hq : q.1 = 499
      · rw [if_pos hq] at k6 ⊢
        obtain ⟨zn, zr, e1, e2, e3⟩ := k6
        exact ⟨zn, zr, e.at e1, e.at e2, e3⟩
      · rw [if_neg hq] at k6 ⊢
        obtain ⟨zf, ze, zv, zn, zh, yf, ye, yv, as, e1, e2, e3, e4, e5, e6, e7, e8, e9⟩ := k6
        exact ⟨zf, ze, zv, zn, zh, yf, ye, yv, as, e.at e1, e.at e2, e.at e3, e.at e4, e.at e5, e.at e6, e.at e7, e.at e8, e9⟩
    · obtain ⟨zf, ze, zv, e1, e2, e3, e4⟩ := k5 a
      exact ⟨zf, ze, zv, e.at e1, e.at e2, e.at e3, e4⟩
  · obtain ⟨zn, g, e1, e2⟩ := h4 a
    exact ⟨zn, g, e.at e1, e2⟩
theorem ai_sb.mono {w0 : va_W} {r r' : List Int} {sb : List ai_b} (h : ai_sb w0 r sb) (e : ai_x r r') : ai_sb w0 r' sb := fun q hq => by
  obtain ⟨za, zb, zr, h1, h2, h3, h4, h5, h6, h7, h8, h9⟩ := h q hq
  exact ⟨za, zb, zr, e.at h1, e.at h2, e.at h3, h4, h5, h6, h7, h8, fun k => (h9 k).mono e⟩
theorem ai_ok.get {r : List Int} {en : List ai_e} (h : ai_ok r en) {k : Nat} {z : Int} (hk : r[k]? = some z) : ∃ e, en[k]? = some e ∧ ai_oe r z e := by
  have hl : k < en.length := by rw [← h.1]; exact (List.getElem?_eq_some_iff.mp hk).1
  exact ⟨en[k], List.getElem?_eq_getElem hl, h.2 k z _ hk (List.getElem?_eq_getElem hl)⟩
theorem ai_ok.name {r : List Int} {en : List ai_e} (h : ai_ok r en) {k : Nat} {e : ai_e} (hk : en[k]? = some e) : ∃ z, r[k]? = some z ∧ ai_oe r z e := by
  have hl : k < r.length := by rw [h.1]; exact (List.getElem?_eq_some_iff.mp hk).1
  exact ⟨r[k], List.getElem?_eq_getElem hl, h.2 k _ e (List.getElem?_eq_getElem hl) hk⟩
theorem ai_oe.mono {r r' : List Int} {z : Int} {e : ai_e} (h : ai_oe r z e) (x : ai_x r r') : ai_oe r' z e := by
  obtain ⟨h1, h2, h3, w, h4, h5⟩ := h
  exact ⟨h1, h2, h3, w, x.at h4, h5⟩
theorem ai_ok.push {r : List Int} {en : List ai_e} {z : Int} {e : ai_e} (h : ai_ok r en) (hz : ai_oe (r ++ [z]) z e) : ai_ok (r ++ [z]) (en ++ [e]) := by
  refine ⟨by simp [h.1], fun k y f h1 h2 => ?_⟩
  by_cases hk : k < r.length
  · rw [List.getElem?_append_left hk] at h1
    rw [List.getElem?_append_left (by rw [← h.1]; exact hk)] at h2
    exact (h.2 k y f h1 h2).mono ai_x.push
  · rw [List.getElem?_append_right (by omega)] at h1
    rw [List.getElem?_append_right (by rw [← h.1]; omega)] at h2
    have e0 : k - r.length = 0 := by
      have := (List.getElem?_eq_some_iff.mp h1).1
      simp at this
      omega
    rw [e0] at h1
    rw [← h.1, e0] at h2
    cases h1
    cases h2
    exact hz
theorem ai_last {r : List Int} {z : Int} {n : Nat} (h : r.length = n) : (r ++ [z])[n]? = some z := by
  subst h
  simp
/-- a new name with bounds -/
def ai_nu (en : List ai_e) (lo hi : Int) : List ai_e := en ++ [(lo, hi, false, en.length, 0)]
theorem ai_ok.nu {r : List Int} {en : List ai_e} {z lo hi : Int} (h : ai_ok r en) (h1 : lo ≤ z) (h2 : z ≤ hi) : ai_ok (r ++ [z]) (ai_nu en lo hi) :=
  h.push ⟨h1, h2, fun q => (by cases q), z, ai_last h.1, by show z + 0 ≤ z; omega⟩
/-- an int's bounds, a long's -/
def ai_i (en : List ai_e) (v : ai_v) : Option (Int × Int) := if v.1 = 1 then (en[v.2.1]?).map fun e => (e.1 + v.2.2.2, e.2.1 + v.2.2.2) else none
def ai_l (en : List ai_e) (v : ai_v) : Option (Int × Int) := if v.1 = 2 then (en[v.2.1]?).map fun e => (e.1 + v.2.2.2, e.2.1 + v.2.2.2) else none
theorem ai_i_ok {ad : List Nat} {b : Nat} {r : List Int} {en : List ai_e} {v : ai_v} {x : Value} {p : Int × Int} (h : ai_ok r en) (hv : ai_dv ad b r v x) (hp : ai_i en v = some p) :
    v.1 = 1 ∧ ∃ (z : Int) (i : Int32), r[v.2.1]? = some z ∧ x = .int i ∧ i.toInt = z + v.2.2.2 ∧ p.1 ≤ i.toInt ∧ i.toInt ≤ p.2 := by
  unfold ai_i at hp
  split at hp
  · rename_i h1
    obtain ⟨e, he, rfl⟩ := Option.map_eq_some_iff.mp hp
    rcases hv with ⟨q, -⟩ | ⟨-, z, i, g1, g2, g3⟩ | ⟨q, -⟩ | ⟨q, -⟩ | ⟨q, -⟩
    · omega
    · have := h.2 _ _ _ g1 he
      refine ⟨h1, z, i, g1, g2, g3, ?_, ?_⟩
      · have := this.1
        show e.1 + v.2.2.2 ≤ _
        omega
      · have := this.2.1
        show _ ≤ e.2.1 + v.2.2.2
        omega
    all_goals omega
  · cases hp
theorem ai_l_ok {ad : List Nat} {b : Nat} {r : List Int} {en : List ai_e} {v : ai_v} {x : Value} {p : Int × Int} (h : ai_ok r en) (hv : ai_dv ad b r v x) (hp : ai_l en v = some p) :
    v.1 = 2 ∧ ∃ (z : Int) (i : Int64), r[v.2.1]? = some z ∧ x = .long i ∧ i.toInt = z + v.2.2.2 ∧ p.1 ≤ i.toInt ∧ i.toInt ≤ p.2 := by
  unfold ai_l at hp
  split at hp
  · rename_i h1
    obtain ⟨e, he, rfl⟩ := Option.map_eq_some_iff.mp hp
    rcases hv with ⟨q, -⟩ | ⟨q, -⟩ | ⟨-, z, i, g1, g2, g3⟩ | ⟨q, -⟩ | ⟨q, -⟩
    · omega
    · omega
    · have := h.2 _ _ _ g1 he
      refine ⟨h1, z, i, g1, g2, g3, ?_, ?_⟩
      · have := this.1
        show e.1 + v.2.2.2 ≤ _
        omega
      · have := this.2.1
        show _ ≤ e.2.1 + v.2.2.2
        omega
    all_goals omega
  · cases hp
/-- name 0 is 0 -/
def ai_z (en : List ai_e) : Bool := match en[0]? with
  | some e => decide (e.1 = 0) && decide (e.2.1 = 0)
  | none => false
theorem ai_z_ok {r : List Int} {en : List ai_e} (h : ai_ok r en) (hz : ai_z en = true) : r[0]? = some 0 := by
  unfold ai_z at hz
  split at hz
  · rename_i e he
    obtain ⟨z, h1, h2⟩ := h.name he
    simp only [Bool.and_eq_true, decide_eq_true_eq] at hz
    have a1 := h2.1
    have a2 := h2.2.1
    have : z = 0 := by omega
    rw [h1, this]
  · cases hz
def ai_ir (lo hi : Int) : Bool := decide (-2147483648 ≤ lo) && decide (hi ≤ 2147483647)
def ai_lr (lo hi : Int) : Bool := decide (-9223372036854775808 ≤ lo) && decide (hi ≤ 9223372036854775807)
theorem ai_irg (i : Int32) : -2147483648 ≤ i.toInt ∧ i.toInt ≤ 2147483647 := by
  have h1 := Int32.le_toInt i
  have h2 := Int32.toInt_lt i
  omega
theorem ai_lrg (i : Int64) : -9223372036854775808 ≤ i.toInt ∧ i.toInt ≤ 9223372036854775807 := by
  have h1 := Int64.le_toInt i
  have h2 := Int64.toInt_lt i
  omega
/-- an int of bounds, as a value: a constant, or a new name -/
def ai_mi (en : List ai_e) (lo hi : Int) : List ai_e × ai_v :=
  if ai_ir lo hi = true then (if lo = hi ∧ ai_z en = true then (en, (1, 0, 0, lo)) else (ai_nu en lo hi, (1, en.length, 0, 0)))
  else (ai_nu en (-2147483648) 2147483647, (1, en.length, 0, 0))
theorem ai_mi_ok {ad : List Nat} {b : Nat} {r : List Int} {en : List ai_e} {lo hi : Int} (h : ai_ok r en) (i : Int32) (hi' : ai_ir lo hi = true → lo ≤ i.toInt ∧ i.toInt ≤ hi) :
    ∃ r', ai_x r r' ∧ ai_ok r' (ai_mi en lo hi).1 ∧ ai_dv ad b r' (ai_mi en lo hi).2 (.int i) := by
  unfold ai_mi
  split
  · rename_i hr
    obtain ⟨g1, g2⟩ := hi' hr
    split
    · rename_i hc
      obtain ⟨c1, c2⟩ := hc
      exact ⟨r, ai_x.rf, h, Or.inr (Or.inl ⟨rfl, 0, i, ai_z_ok h c2, rfl, by show i.toInt = 0 + lo; omega⟩)⟩
    · exact ⟨r ++ [i.toInt], ai_x.push, h.nu g1 g2, Or.inr (Or.inl ⟨rfl, i.toInt, i, ai_last h.1, rfl, by show i.toInt = i.toInt + 0; omega⟩)⟩
  · exact ⟨r ++ [i.toInt], ai_x.push, h.nu (ai_irg i).1 (ai_irg i).2, Or.inr (Or.inl ⟨rfl, i.toInt, i, ai_last h.1, rfl, by show i.toInt = i.toInt + 0; omega⟩)⟩
def ai_ml (en : List ai_e) (lo hi : Int) : List ai_e × ai_v :=
  if ai_lr lo hi = true then (if lo = hi ∧ ai_z en = true then (en, (2, 0, 0, lo)) else (ai_nu en lo hi, (2, en.length, 0, 0)))
  else (ai_nu en (-9223372036854775808) 9223372036854775807, (2, en.length, 0, 0))
theorem ai_ml_ok {ad : List Nat} {b : Nat} {r : List Int} {en : List ai_e} {lo hi : Int} (h : ai_ok r en) (i : Int64) (hi' : ai_lr lo hi = true → lo ≤ i.toInt ∧ i.toInt ≤ hi) :
    ∃ r', ai_x r r' ∧ ai_ok r' (ai_ml en lo hi).1 ∧ ai_dv ad b r' (ai_ml en lo hi).2 (.long i) := by
  unfold ai_ml
  split
  · rename_i hr
    obtain ⟨g1, g2⟩ := hi' hr
    split
    · rename_i hc
      obtain ⟨c1, c2⟩ := hc
      exact ⟨r, ai_x.rf, h, Or.inr (Or.inr (Or.inl ⟨rfl, 0, i, ai_z_ok h c2, rfl, by show i.toInt = 0 + lo; omega⟩))⟩
    · exact ⟨r ++ [i.toInt], ai_x.push, h.nu g1 g2, Or.inr (Or.inr (Or.inl ⟨rfl, i.toInt, i, ai_last h.1, rfl, by show i.toInt = i.toInt + 0; omega⟩))⟩
  · exact ⟨r ++ [i.toInt], ai_x.push, h.nu (ai_lrg i).1 (ai_lrg i).2, Or.inr (Or.inr (Or.inl ⟨rfl, i.toInt, i, ai_last h.1, rfl, by show i.toInt = i.toInt + 0; omega⟩))⟩
end
section
/-! the numbers' steps -/
theorem ai_addI {i j : Int32} (h1 : -2147483648 ≤ i.toInt + j.toInt) (h2 : i.toInt + j.toInt ≤ 2147483647) : (i + j).toInt = i.toInt + j.toInt := by
  rw [Int32.toInt_add, Int.bmod_eq_of_le] <;> omega
theorem ai_subI {i j : Int32} (h1 : -2147483648 ≤ i.toInt - j.toInt) (h2 : i.toInt - j.toInt ≤ 2147483647) : (i - j).toInt = i.toInt - j.toInt := by
  rw [Int32.toInt_sub, Int.bmod_eq_of_le] <;> omega
theorem ai_mulI {i j : Int32} (h1 : -2147483648 ≤ i.toInt * j.toInt) (h2 : i.toInt * j.toInt ≤ 2147483647) : (i * j).toInt = i.toInt * j.toInt := by
  rw [Int32.toInt_mul, Int.bmod_eq_of_le] <;> omega
theorem ai_addL {i j : Int64} (h1 : -9223372036854775808 ≤ i.toInt + j.toInt) (h2 : i.toInt + j.toInt ≤ 9223372036854775807) : (i + j).toInt = i.toInt + j.toInt := by
  rw [Int64.toInt_add, Int.bmod_eq_of_le] <;> omega
theorem ai_irs {lo hi : Int} (h : ai_ir lo hi = true) : -2147483648 ≤ lo ∧ hi ≤ 2147483647 := by
  unfold ai_ir at h
  simpa using h
theorem ai_lrs {lo hi : Int} (h : ai_lr lo hi = true) : -9223372036854775808 ≤ lo ∧ hi ≤ 9223372036854775807 := by
  unfold ai_lr at h
  simpa using h
abbrev ai_q : Type := List ai_e × List ai_b × ai_v
/-- a step of two ints to a value -/
def ai_O2 (F : List ai_e → List ai_b → ai_v → ai_v → Option ai_q) (side : Int32 → Prop) (f : Int32 → Int32 → Int32) : Prop :=
  ∀ (w0 : va_W) (ad : List Nat) (b : Nat) (r : List Int) (en : List ai_e) (sb : List ai_b) (x y : ai_v) (vx vy : Value) (q : ai_q), ai_ok r en → ai_sb w0 r sb → ai_dv ad b r x vx → ai_dv ad b r y vy → F en sb x y = some q →
    ∃ i j : Int32, vx = .int i ∧ vy = .int j ∧ side j ∧ ∃ r', ai_x r r' ∧ ai_ok r' q.1 ∧ ai_sb w0 r' q.2.1 ∧ ai_dv ad b r' q.2.2 (.int (f i j))
/-- out of bounds alone -/
def ai_bop (g : Int × Int → Int × Int → Option (Int × Int)) (en : List ai_e) (sb : List ai_b) (x y : ai_v) : Option ai_q :=
  (ai_i en x).bind fun p => (ai_i en y).bind fun q => (g p q).map fun w => ((ai_mi en w.1 w.2).1, sb, (ai_mi en w.1 w.2).2)
theorem ai_bop_ok {g : Int × Int → Int × Int → Option (Int × Int)} {side : Int32 → Prop} {f : Int32 → Int32 → Int32}
    (hg : ∀ (p q w : Int × Int) (i j : Int32), p.1 ≤ i.toInt → i.toInt ≤ p.2 → q.1 ≤ j.toInt → j.toInt ≤ q.2 → g p q = some w → side j ∧ (ai_ir w.1 w.2 = true → w.1 ≤ (f i j).toInt ∧ (f i j).toInt ≤ w.2)) : ai_O2 (ai_bop g) side f := by
  intro w0 ad b r en sb x y vx vy q h hs hx hy hF
  unfold ai_bop at hF
  obtain ⟨px, h1, hF⟩ := Option.bind_eq_some_iff.mp hF
  obtain ⟨py, h2, hF⟩ := Option.bind_eq_some_iff.mp hF
  obtain ⟨w, h3, rfl⟩ := Option.map_eq_some_iff.mp hF
  obtain ⟨-, zx, i, -, rfl, -, a1, a2⟩ := ai_i_ok h hx h1
  obtain ⟨-, zy, j, -, rfl, -, b1, b2⟩ := ai_i_ok h hy h2
  obtain ⟨s1, s2⟩ := hg px py w i j a1 a2 b1 b2 h3
  obtain ⟨r', e1, e2, e3⟩ := ai_mi_ok (ad := ad) (b := b) (lo := w.1) (hi := w.2) h (f i j) s2
  exact ⟨i, j, rfl, rfl, s1, r', e1, e2, hs.mono e1, e3⟩
theorem ai_modI {i j : Int32} {t : Int} (h : (i.toInt + j.toInt - t) % 4294967296 = 0) (h1 : -2147483648 ≤ t) (h2 : t ≤ 2147483647) : (i + j).toInt = t := by
  rw [Int32.toInt_add, Int.bmod_def]
  omega
/-- addition keeps names; sums that may turn over are told, and found again -/
def ai_add (en : List ai_e) (sb : List ai_b) (x y : ai_v) : Option ai_q :=
  (ai_i en x).bind fun p => (ai_i en y).bind fun q =>
    if q.1 = q.2 ∧ ai_ir (p.1 + q.1) (p.2 + q.2) = true then some (en, sb, (1, x.2.1, 0, x.2.2.2 + q.1))
    else if p.1 = p.2 ∧ ai_ir (p.1 + q.1) (p.2 + q.2) = true then some (en, sb, (1, y.2.1, 0, y.2.2.2 + p.1))
    else match sb.find? (fun k => decide (k.1 = 1) && decide (k.2.1 = x.2.1) && decide (k.2.2.1 = y.2.1) && decide (k.2.2.2.2 = x.2.2.2 + y.2.2.2) && (en[k.2.2.2.1]?).any (fun e => ai_ir e.1 e.2.1)) with
      | some k => some (en, sb, (1, k.2.2.2.1, 0, 0))
      | none => (match sb.find? (fun j => decide (j.1 = 2) && decide (j.2.1 = x.2.1) && decide (j.2.2.1 = y.2.1) && (en[j.2.2.2.1]?).any (fun e => ai_ir (e.1 + (x.2.2.2 + y.2.2.2 - j.2.2.2.2)) (e.2.1 + (x.2.2.2 + y.2.2.2 - j.2.2.2.2)))) with
      | some j => some (en, sb, (1, j.2.2.2.1, 0, x.2.2.2 + y.2.2.2 - j.2.2.2.2))
      | none => (match (sb.find? fun k => decide (k.1 = 1) && decide (k.2.1 = 0) && decide (k.2.2.2.1 = x.2.1)).bind fun k => (sb.find? fun j => decide (j.1 = 2) && decide (j.2.1 = k.2.2.1) && decide (j.2.2.1 = y.2.1) && ai_z en && (en[j.2.2.2.1]?).any (fun e => ai_ir (e.1 + (k.2.2.2.2 + x.2.2.2 + y.2.2.2 - j.2.2.2.2)) (e.2.1 + (k.2.2.2.2 + x.2.2.2 + y.2.2.2 - j.2.2.2.2)))).map fun j => (k, j) with
        | some (k, j) => some (en, sb, (1, j.2.2.2.1, 0, k.2.2.2.2 + x.2.2.2 + y.2.2.2 - j.2.2.2.2))
        | none => if ai_ir (p.1 + q.1) (p.2 + q.2) = true then some (ai_nu en (p.1 + q.1) (p.2 + q.2), (1, x.2.1, y.2.1, en.length, x.2.2.2 + y.2.2.2) :: sb, (1, en.length, 0, 0))
          else some (ai_nu en (-2147483648) 2147483647, (1, x.2.1, y.2.1, en.length, x.2.2.2 + y.2.2.2) :: sb, (1, en.length, 0, 0))))
theorem ai_any {en : List ai_e} {k : Nat} {f : ai_e → Bool} {r : List Int} {z : Int} (h : ai_ok r en) (hz : r[k]? = some z) (ha : (en[k]?).any f = true) : ∃ e, f e = true ∧ e.1 ≤ z ∧ z ≤ e.2.1 := by
  obtain ⟨e, he, h1, h2, -⟩ := h.get hz
  rw [he] at ha
  exact ⟨e, ha, h1, h2⟩
theorem ai_add_ok : ai_O2 ai_add (fun _ => True) (fun i j => i + j) := by
  intro w0 ad b r en sb x y vx vy q h hs hx hy hF
  unfold ai_add at hF
  obtain ⟨px, h1, hF⟩ := Option.bind_eq_some_iff.mp hF
  obtain ⟨py, h2, hF⟩ := Option.bind_eq_some_iff.mp hF
  obtain ⟨-, zx, i, gx, rfl, kx, a1, a2⟩ := ai_i_ok h hx h1
  obtain ⟨-, zy, j, gy, rfl, ky, b1, b2⟩ := ai_i_ok h hy h2
  refine ⟨i, j, rfl, rfl, trivial, ?_⟩
  have fresh : ∀ lo hi : Int, lo ≤ (i + j).toInt → (i + j).toInt ≤ hi → ∃ r', ai_x r r' ∧ ai_ok r' (ai_nu en lo hi) ∧ ai_sb w0 r' ((1, x.2.1, y.2.1, en.length, x.2.2.2 + y.2.2.2) :: sb) ∧ ai_dv ad b r' (1, en.length, 0, 0) (.int (i + j)) := fun lo hi l1 l2 => by
    refine ⟨r ++ [(i + j).toInt], ai_x.push, h.nu l1 l2, ?_, Or.inr (Or.inl ⟨rfl, (i + j).toInt, _, ai_last h.1, rfl, by show (i + j).toInt = (i + j).toInt + 0; omega⟩)⟩
    intro k hk
    rcases List.mem_cons.mp hk with rfl | hk
    · refine ⟨zx, zy, (i + j).toInt, ai_x.push.at gx, ai_x.push.at gy, ai_last h.1, fun q => (by cases q), fun _ => ?_, fun q => (by cases q), fun q => (by cases q), fun q => (by cases q), fun h => absurd (show (100 : Nat) ≤ 1 from h) (by decide)⟩
      show (zx + zy + (x.2.2.2 + y.2.2.2) - (i + j).toInt) % 4294967296 = 0
      rw [Int32.toInt_add, Int.bmod_def]
      omega
    · exact hs.mono ai_x.push k hk
  split at hF
  · rename_i hc
    obtain ⟨c1, c2⟩ := hc
    have c3 := ai_irs c2
    cases hF
    refine ⟨r, ai_x.rf, h, hs, Or.inr (Or.inl ⟨rfl, zx, _, gx, rfl, ?_⟩)⟩
    show (i + j).toInt = zx + (x.2.2.2 + py.1)
    rw [ai_addI] <;> omega
  · split at hF
    · rename_i hc
      obtain ⟨c1, c2⟩ := hc
      have c3 := ai_irs c2
      cases hF
      refine ⟨r, ai_x.rf, h, hs, Or.inr (Or.inl ⟨rfl, zy, _, gy, rfl, ?_⟩)⟩
      show (i + j).toInt = zy + (y.2.2.2 + px.1)
      rw [ai_addI] <;> omega
    · split at hF
      · rename_i k hk
        cases hF
        have hm := List.mem_of_find?_eq_some hk
        have hp := List.find?_some hk
        simp only [Bool.and_eq_true, decide_eq_true_eq] at hp
        obtain ⟨⟨⟨⟨p1, p2⟩, p3⟩, p4⟩, p5⟩ := hp
        obtain ⟨za, zb, zr, e1, e2, e3, -, e4, -⟩ := hs k hm
        rw [p2, gx] at e1
        rw [p3, gy] at e2
        cases e1
        cases e2
        have e5 := e4 p1
        obtain ⟨e, f1, f2, f3⟩ := ai_any h e3 p5
        have f4 := ai_irs f1
        refine ⟨r, ai_x.rf, h, hs, Or.inr (Or.inl ⟨rfl, zr, _, e3, rfl, ?_⟩)⟩
        show (i + j).toInt = zr + 0
        rw [ai_modI (t := zr)] <;> omega
      · split at hF
        · rename_i jj hj1
          cases hF
          have hp2 := List.find?_some hj1
          simp only [Bool.and_eq_true, decide_eq_true_eq] at hp2
          obtain ⟨⟨⟨q1, q2⟩, q3⟩, q5⟩ := hp2
          obtain ⟨ya, yb, yr, f1, f2, f3, -, -, f4, -⟩ := hs jj (List.mem_of_find?_eq_some hj1)
          rw [q2, gx] at f1
          cases f1
          rw [q3, gy] at f2
          cases f2
          have f5 := f4 q1
          obtain ⟨e, w1, w2, w3⟩ := ai_any h f3 q5
          have w4 := ai_irs w1
          refine ⟨r, ai_x.rf, h, hs, Or.inr (Or.inl ⟨rfl, yr, _, f3, rfl, ?_⟩)⟩
          show (i + j).toInt = yr + (x.2.2.2 + y.2.2.2 - jj.2.2.2.2)
          rw [ai_modI (t := yr + (x.2.2.2 + y.2.2.2 - jj.2.2.2.2))] <;> omega
        split at hF
        · rename_i k0 j0 hk
          obtain ⟨k, hk1, hk2⟩ := Option.bind_eq_some_iff.mp hk
          obtain ⟨jj, hj1, hj2⟩ := Option.map_eq_some_iff.mp hk2
          cases hj2
          cases hF
          have hp := List.find?_some hk1
          have hp2 := List.find?_some hj1
          simp only [Bool.and_eq_true, decide_eq_true_eq] at hp hp2
          obtain ⟨⟨p1, p2⟩, p3⟩ := hp
          obtain ⟨⟨⟨⟨q1, q2⟩, q3⟩, q4⟩, q5⟩ := hp2
          obtain ⟨za, zb, zr, e1, e2, e3, -, e4, -⟩ := hs k0 (List.mem_of_find?_eq_some hk1)
          obtain ⟨ya, yb, yr, f1, f2, f3, -, -, f4, -⟩ := hs j0 (List.mem_of_find?_eq_some hj1)
          rw [p2, ai_z_ok h q4] at e1
          cases e1
          rw [p3, gx] at e3
          cases e3
          rw [q2, e2] at f1
          cases f1
          rw [q3, gy] at f2
          cases f2
          have e5 := e4 p1
          have f5 := f4 q1
          obtain ⟨e, w1, w2, w3⟩ := ai_any h f3 q5
          have w4 := ai_irs w1
          refine ⟨r, ai_x.rf, h, hs, Or.inr (Or.inl ⟨rfl, yr, _, f3, rfl, ?_⟩)⟩
          show (i + j).toInt = yr + (k0.2.2.2.2 + x.2.2.2 + y.2.2.2 - j0.2.2.2.2)
          rw [ai_modI (t := yr + (k0.2.2.2.2 + x.2.2.2 + y.2.2.2 - j0.2.2.2.2))] <;> omega
        · split at hF
          · rename_i hr
            have c3 := ai_irs hr
            cases hF
            exact fresh _ _ (by rw [ai_addI] <;> omega) (by rw [ai_addI] <;> omega)
          · cases hF
            exact fresh _ _ (ai_irg _).1 (ai_irg _).2
/-- a sum of longs is told -/
def ai_lad (en : List ai_e) (sb : List ai_b) (x y : ai_v) : Option ai_q :=
  (ai_l en x).bind fun p => (ai_l en y).bind fun q =>
    if ai_lr (p.1 + q.1) (p.2 + q.2) = true then some (ai_nu en (p.1 + q.1) (p.2 + q.2), (2, x.2.1, y.2.1, en.length, x.2.2.2 + y.2.2.2) :: sb, (2, en.length, 0, 0))
    else some (ai_nu en (-9223372036854775808) 9223372036854775807, sb, (2, en.length, 0, 0))
theorem ai_lad_ok (w0 : va_W) (ad : List Nat) (b : Nat) (r : List Int) (en : List ai_e) (sb : List ai_b) (x y : ai_v) (vx vy : Value) (q : ai_q) (h : ai_ok r en) (hs : ai_sb w0 r sb) (hx : ai_dv ad b r x vx) (hy : ai_dv ad b r y vy) (hF : ai_lad en sb x y = some q) :
    ∃ i j : Int64, vx = .long i ∧ vy = .long j ∧ ∃ r', ai_x r r' ∧ ai_ok r' q.1 ∧ ai_sb w0 r' q.2.1 ∧ ai_dv ad b r' q.2.2 (.long (i + j)) := by
  unfold ai_lad at hF
  obtain ⟨px, h1, hF⟩ := Option.bind_eq_some_iff.mp hF
  obtain ⟨py, h2, hF⟩ := Option.bind_eq_some_iff.mp hF
  obtain ⟨-, zx, i, gx, rfl, kx, a1, a2⟩ := ai_l_ok h hx h1
  obtain ⟨-, zy, j, gy, rfl, ky, b1, b2⟩ := ai_l_ok h hy h2
  refine ⟨i, j, rfl, rfl, ?_⟩
  split at hF
  · rename_i hr
    have c3 := ai_lrs hr
    have es : (i + j).toInt = i.toInt + j.toInt := ai_addL (by omega) (by omega)
    cases hF
    refine ⟨r ++ [(i + j).toInt], ai_x.push, h.nu (by omega) (by omega), ?_, Or.inr (Or.inr (Or.inl ⟨rfl, (i + j).toInt, _, ai_last h.1, rfl, by show (i + j).toInt = (i + j).toInt + 0; omega⟩))⟩
    intro k hk
    rcases List.mem_cons.mp hk with rfl | hk
    · exact ⟨zx, zy, (i + j).toInt, ai_x.push.at gx, ai_x.push.at gy, ai_last h.1, fun q => (by cases q), fun q => (by cases q), fun _ => (by show zx + zy + (x.2.2.2 + y.2.2.2) = (i + j).toInt; omega), fun q => (by cases q), fun q => (by cases q), fun h => absurd (show (100 : Nat) ≤ 2 from h) (by decide)⟩
    · exact hs.mono ai_x.push k hk
  · cases hF
    exact ⟨r ++ [(i + j).toInt], ai_x.push, h.nu (ai_lrg _).1 (ai_lrg _).2, hs.mono ai_x.push, Or.inr (Or.inr (Or.inl ⟨rfl, (i + j).toInt, _, ai_last h.1, rfl, by show (i + j).toInt = (i + j).toInt + 0; omega⟩))⟩
/-- subtraction: by a constant it keeps the name; else what was told of the same two names -/
def ai_sub (en : List ai_e) (sb : List ai_b) (x y : ai_v) : Option ai_q :=
  (ai_i en x).bind fun p => (ai_i en y).bind fun q =>
    if ai_ir (p.1 - q.2) (p.2 - q.1) = true then
      if q.1 = q.2 then some (en, sb, (1, x.2.1, 0, x.2.2.2 - q.1))
      else match sb.find? (fun k => decide (k.1 = 0) && decide (k.2.1 = x.2.1) && decide (k.2.2.1 = y.2.1)) with
        | some k => some (en, sb, (1, k.2.2.2.1, 0, k.2.2.2.2 + x.2.2.2 - y.2.2.2))
        | none => some (ai_nu en (p.1 - q.2) (p.2 - q.1), (0, x.2.1, y.2.1, en.length, y.2.2.2 - x.2.2.2) :: sb, (1, en.length, 0, 0))
    else some ((ai_mi en (-2147483648) 2147483647).1, sb, (ai_mi en (-2147483648) 2147483647).2)
theorem ai_sub_ok : ai_O2 ai_sub (fun _ => True) (fun i j => i - j) := by
  intro w0 ad b r en sb x y vx vy q h hs hx hy hF
  unfold ai_sub at hF
  obtain ⟨px, h1, hF⟩ := Option.bind_eq_some_iff.mp hF
  obtain ⟨py, h2, hF⟩ := Option.bind_eq_some_iff.mp hF
  obtain ⟨-, zx, i, gx, rfl, kx, a1, a2⟩ := ai_i_ok h hx h1
  obtain ⟨-, zy, j, gy, rfl, ky, b1, b2⟩ := ai_i_ok h hy h2
  refine ⟨i, j, rfl, rfl, trivial, ?_⟩
  split at hF
  · rename_i hc
    have c3 := ai_irs hc
    have es : (i - j).toInt = i.toInt - j.toInt := ai_subI (by omega) (by omega)
    split at hF
    · cases hF
      refine ⟨r, ai_x.rf, h, hs, Or.inr (Or.inl ⟨rfl, zx, _, gx, rfl, ?_⟩)⟩
      show (i - j).toInt = zx + (x.2.2.2 - py.1)
      omega
    · split at hF
      · rename_i k hk
        cases hF
        have hm := List.mem_of_find?_eq_some hk
        have hp := List.find?_some hk
        simp only [Bool.and_eq_true, decide_eq_true_eq] at hp
        obtain ⟨za, zb, zr, e1, e2, e3, e4, -⟩ := hs k hm
        rw [hp.1.2, gx] at e1
        rw [hp.2, gy] at e2
        cases e1
        cases e2
        have e5 := e4 hp.1.1
        refine ⟨r, ai_x.rf, h, hs, Or.inr (Or.inl ⟨rfl, zr, _, e3, rfl, ?_⟩)⟩
        show (i - j).toInt = zr + (k.2.2.2.2 + x.2.2.2 - y.2.2.2)
        omega
      · cases hF
        refine ⟨r ++ [(i - j).toInt], ai_x.push, h.nu (by omega) (by omega), ?_, Or.inr (Or.inl ⟨rfl, (i - j).toInt, _, ai_last h.1, rfl, by show (i - j).toInt = (i - j).toInt + 0; omega⟩)⟩
        intro k hk
        rcases List.mem_cons.mp hk with rfl | hk
        · exact ⟨zx, zy, (i - j).toInt, ai_x.push.at gx, ai_x.push.at gy, ai_last h.1, fun _ => (by show zx - zy = (i - j).toInt + (y.2.2.2 - x.2.2.2); omega), fun q => (by cases q), fun q => (by cases q), fun q => (by cases q), fun q => (by cases q), fun h => absurd (show (100 : Nat) ≤ 0 from h) (by decide)⟩
        · exact hs.mono ai_x.push k hk
  · cases hF
    obtain ⟨r', e1, e2, e3⟩ := ai_mi_ok (ad := ad) (b := b) (lo := -2147483648) (hi := 2147483647) h (i - j) (fun _ => ai_irg _)
    exact ⟨r', e1, e2, hs.mono e1, e3⟩
/-- products, and what is only known to be an int -/
def ai_mn (a b c d : Int) : Int := min (min a b) (min c d)
def ai_mx (a b c d : Int) : Int := max (max a b) (max c d)
theorem ai_prod {a b c d i j : Int} (h1 : a ≤ i) (h2 : i ≤ b) (h3 : c ≤ j) (h4 : j ≤ d) : ai_mn (a * c) (a * d) (b * c) (b * d) ≤ i * j ∧ i * j ≤ ai_mx (a * c) (a * d) (b * c) (b * d) := by
  have e1 : ∀ x : Int, (a * x ≤ i * x ∨ b * x ≤ i * x) ∧ (i * x ≤ a * x ∨ i * x ≤ b * x) := fun x => by
    rcases Int.le_total 0 x with hx | hx
    · exact ⟨Or.inl (Int.mul_le_mul_of_nonneg_right h1 hx), Or.inr (Int.mul_le_mul_of_nonneg_right h2 hx)⟩
    · exact ⟨Or.inr (Int.mul_le_mul_of_nonpos_right h2 hx), Or.inl (Int.mul_le_mul_of_nonpos_right h1 hx)⟩
  have e2 : ∀ x : Int, (x * c ≤ x * j ∨ x * d ≤ x * j) ∧ (x * j ≤ x * c ∨ x * j ≤ x * d) := fun x => by
    rcases Int.le_total 0 x with hx | hx
    · exact ⟨Or.inl (Int.mul_le_mul_of_nonneg_left h3 hx), Or.inr (Int.mul_le_mul_of_nonneg_left h4 hx)⟩
    · exact ⟨Or.inr (Int.mul_le_mul_of_nonpos_left hx h4), Or.inl (Int.mul_le_mul_of_nonpos_left hx h3)⟩
  have f1 := e1 j
  have f2 := e2 a
  have f3 := e2 b
  unfold ai_mn ai_mx
  omega
def ai_mul : List ai_e → List ai_b → ai_v → ai_v → Option ai_q := ai_bop fun p q => some (ai_mn (p.1 * q.1) (p.1 * q.2) (p.2 * q.1) (p.2 * q.2), ai_mx (p.1 * q.1) (p.1 * q.2) (p.2 * q.1) (p.2 * q.2))
theorem ai_mul_ok : ai_O2 ai_mul (fun _ => True) (fun i j => i * j) := ai_bop_ok fun p q w i j a1 a2 b1 b2 hw => by
  cases hw
  refine ⟨trivial, fun hr => ?_⟩
  have c3 := ai_irs hr
  have c4 := ai_prod a1 a2 b1 b2
  dsimp only at c3 ⊢
  rw [ai_mulI] <;> omega
def ai_top : List ai_e → List ai_b → ai_v → ai_v → Option ai_q := ai_bop fun _ _ => some (-2147483648, 2147483647)
theorem ai_top_ok (f : Int32 → Int32 → Int32) : ai_O2 ai_top (fun _ => True) f := ai_bop_ok fun p q w i j a1 a2 b1 b2 hw => by
  cases hw
  exact ⟨trivial, fun _ => ai_irg _⟩
/-- and: at most the one that isn't negative -/
theorem ai_andI (i j : Int32) (h : 0 ≤ j.toInt) : 0 ≤ (i &&& j).toInt ∧ (i &&& j).toInt ≤ j.toInt := by
  have h : 0 ≤ j.toBitVec.toInt := h
  show 0 ≤ (i.toBitVec &&& j.toBitVec).toInt ∧ (i.toBitVec &&& j.toBitVec).toInt ≤ j.toBitVec.toInt
  generalize i.toBitVec = x at h ⊢
  generalize j.toBitVec = y at h ⊢
  have hy : y.toNat < 2147483648 := by
    rw [BitVec.toInt_eq_toNat_cond] at h
    split at h <;> omega
  have hle : (x &&& y).toNat ≤ y.toNat := by
    rw [BitVec.toNat_and]
    exact Nat.and_le_right
  rw [BitVec.toInt_eq_toNat_cond, BitVec.toInt_eq_toNat_cond]
  rw [if_pos (by omega), if_pos (by omega)]
  omega
def ai_and : List ai_e → List ai_b → ai_v → ai_v → Option ai_q := ai_bop fun _ q => if 0 ≤ q.1 then some (0, q.2) else some (-2147483648, 2147483647)
theorem ai_and_ok : ai_O2 ai_and (fun _ => True) (fun i j => i &&& j) := ai_bop_ok fun p q w i j a1 a2 b1 b2 hw => by
  refine ⟨trivial, fun _ => ?_⟩
  split at hw
  · cases hw
    have := ai_andI i j (by omega)
    dsimp only
    omega
  · cases hw
    exact ai_irg _
/-- quotient and rest: the divisor's bounds leave 0 out -/
theorem ai_divI (i j : Int32) (h1 : 0 ≤ i.toInt) (h2 : 0 < j.toInt) : 0 ≤ (i / j).toInt ∧ (i / j).toInt ≤ i.toInt := by
  have e : (i / j).toInt = i.toInt.tdiv j.toInt := by
    rw [Int32.toInt_div, Int.bmod_eq_of_le]
    · have := Int.tdiv_nonneg h1 (Int.le_of_lt h2)
      omega
    · have := Int.tdiv_le_self j.toInt h1
      have := ai_irg i
      omega
  rw [e]
  exact ⟨Int.tdiv_nonneg h1 (Int.le_of_lt h2), Int.tdiv_le_self _ h1⟩
theorem ai_remI (i j : Int32) (h1 : 0 ≤ i.toInt) (h2 : 0 < j.toInt) : 0 ≤ (i - i / j * j).toInt ∧ (i - i / j * j).toInt < j.toInt := by
  rw [rem_toInt]
  have := tmod_bounds (a := i.toInt) h2
  have h3 := Int.tmod_nonneg j.toInt h1
  omega
theorem ai_ne0 {j : Int32} {a b : Int} (h1 : a ≤ j.toInt) (h2 : j.toInt ≤ b) (h : 0 < a ∨ b < 0) : ¬ j = 0 := by
  rintro rfl
  have : (0 : Int32).toInt = 0 := rfl
  omega
def ai_div : List ai_e → List ai_b → ai_v → ai_v → Option ai_q := ai_bop fun p q => if 0 < q.1 ∨ q.2 < 0 then (if 0 ≤ p.1 ∧ 0 < q.1 then some (0, p.2) else some (-2147483648, 2147483647)) else none
theorem ai_div_ok : ai_O2 ai_div (fun j => ¬ j = 0) (fun i j => i / j) := ai_bop_ok fun p q w i j a1 a2 b1 b2 hw => by
  split at hw
  · rename_i hc
    refine ⟨ai_ne0 b1 b2 hc, fun _ => ?_⟩
    split at hw
    · cases hw
      have := ai_divI i j (by omega) (by omega)
      dsimp only
      omega
    · cases hw
      exact ai_irg _
  · cases hw
def ai_rem : List ai_e → List ai_b → ai_v → ai_v → Option ai_q := ai_bop fun p q => if 0 < q.1 ∨ q.2 < 0 then (if 0 ≤ p.1 ∧ 0 < q.1 then some (0, q.2 - 1) else some (-2147483648, 2147483647)) else none
theorem ai_rem_ok : ai_O2 ai_rem (fun j => ¬ j = 0) (fun i j => i - i / j * j) := ai_bop_ok fun p q w i j a1 a2 b1 b2 hw => by
  split at hw
  · rename_i hc
    refine ⟨ai_ne0 b1 b2 hc, fun _ => ?_⟩
    split at hw
    · cases hw
      have := ai_remI i j (by omega) (by omega)
      dsimp only
      omega
    · cases hw
      exact ai_irg _
  · cases hw
/-- the smaller, the greater of two -/
def ai_min : List ai_e → List ai_b → ai_v → ai_v → Option ai_q := ai_bop fun p q => some (min p.1 q.1, min p.2 q.2)
theorem ai_min_ok : ai_O2 ai_min (fun _ => True) (fun i j => if j < i then j else i) := ai_bop_ok fun p q w i j a1 a2 b1 b2 hw => by
  cases hw
  refine ⟨trivial, fun _ => ?_⟩
  dsimp only
  by_cases h : j < i
  · rw [if_pos h]
    rw [Int32.lt_iff_toInt_lt] at h
    omega
  · rw [if_neg h]
    rw [Int32.lt_iff_toInt_lt] at h
    omega
def ai_max : List ai_e → List ai_b → ai_v → ai_v → Option ai_q := ai_bop fun p q => some (max p.1 q.1, max p.2 q.2)
theorem ai_max_ok : ai_O2 ai_max (fun _ => True) (fun i j => if i < j then j else i) := ai_bop_ok fun p q w i j a1 a2 b1 b2 hw => by
  cases hw
  refine ⟨trivial, fun _ => ?_⟩
  dsimp only
  by_cases h : i < j
  · rw [if_pos h]
    rw [Int32.lt_iff_toInt_lt] at h
    omega
  · rw [if_neg h]
    rw [Int32.lt_iff_toInt_lt] at h
    omega
/-- a product by a constant is told -/
def ai_mulc (en : List ai_e) (sb : List ai_b) (x : ai_v) (p : Int × Int) (k : Int) : ai_q := (ai_nu en (p.1 * k) (p.2 * k), (500 + k.toNat, x.2.1, x.2.1, en.length, x.2.2.2) :: sb, (1, en.length, 0, 0))
def ai_mulF (en : List ai_e) (sb : List ai_b) (x y : ai_v) : Option ai_q :=
  (ai_i en x).bind fun p => (ai_i en y).bind fun q =>
    if q.1 = q.2 ∧ p.1 < p.2 ∧ 0 ≤ q.1 ∧ q.1 < 500 ∧ ai_ir (p.1 * q.1) (p.2 * q.1) = true then some (ai_mulc en sb x p q.1)
    else if p.1 = p.2 ∧ q.1 < q.2 ∧ 0 ≤ p.1 ∧ p.1 < 500 ∧ ai_ir (q.1 * p.1) (q.2 * p.1) = true then some (ai_mulc en sb y q p.1)
    else ai_mul en sb x y
theorem ai_mulc_ok {w0 : va_W} {ad : List Nat} {b : Nat} {r : List Int} {en : List ai_e} {sb : List ai_b} {x : ai_v} {p : Int × Int} {k z : Int} {i u : Int32} (h : ai_ok r en) (hs : ai_sb w0 r sb) (gx : r[x.2.1]? = some z) (kx : i.toInt = z + x.2.2.2) (a1 : p.1 ≤ i.toInt) (a2 : i.toInt ≤ p.2) (k0 : 0 ≤ k) (k1 : k < 500) (hu : u.toInt = i.toInt * k) : ∃ r', ai_x r r' ∧ ai_ok r' (ai_mulc en sb x p k).1 ∧ ai_sb w0 r' (ai_mulc en sb x p k).2.1 ∧ ai_dv ad b r' (ai_mulc en sb x p k).2.2 (.int u) := by
  have m1 : p.1 * k ≤ u.toInt := by rw [hu]; exact Int.mul_le_mul_of_nonneg_right a1 k0
  have m2 : u.toInt ≤ p.2 * k := by rw [hu]; exact Int.mul_le_mul_of_nonneg_right a2 k0
  refine ⟨r ++ [u.toInt], ai_x.push, h.nu m1 m2, ?_, Or.inr (Or.inl ⟨rfl, u.toInt, _, ai_last h.1, rfl, by show u.toInt = u.toInt + 0; omega⟩)⟩
  intro q hq
  rcases List.mem_cons.mp hq with rfl | hq
  · refine ⟨z, z, u.toInt, ai_x.push.at gx, ai_x.push.at gx, ai_last h.1, fun h => absurd (show 500 + k.toNat = 0 from h) (by omega), fun h => absurd (show 500 + k.toNat = 1 from h) (by omega), fun h => absurd (show 500 + k.toNat = 2 from h) (by omega), fun h => absurd (show 500 + k.toNat = 4 from h) (by omega), fun h => absurd (show 500 + k.toNat = 5 from h) (by omega), fun _ => ⟨fun h => absurd (show 1000 ≤ 500 + k.toNat from h) (by omega), fun _ => ⟨z, u.toInt, ai_x.push.at gx, ai_last h.1, fun h => absurd (show 500 + k.toNat < 132 from h) (by omega), fun _ h => absurd (show 500 + k.toNat < 232 from h) (by omega), fun _ => ?_, fun h => absurd (show 500 + k.toNat = 140 from h) (by omega)⟩, fun _ _ => ⟨fun _ h => absurd (show 500 + k.toNat < 305 from h) (by omega), fun _ h => absurd (show 500 + k.toNat < 318 from h) (by omega), fun _ h => absurd (show 500 + k.toNat < 323 from h) (by omega), fun _ h => absurd (show 500 + k.toNat < 500 from h) (by omega), fun h => absurd (show 500 + k.toNat = 330 from h) (by omega)⟩, fun h => absurd (show 500 + k.toNat = 350 from h) (by omega)⟩⟩
    show u.toInt = ((500 + k.toNat - 500 : Nat) : Int) * (z + x.2.2.2)
    rw [hu, ← kx, show ((500 + k.toNat - 500 : Nat) : Int) = k by omega, Int.mul_comm]
  · exact hs.mono ai_x.push q hq
theorem ai_mulF_ok : ai_O2 ai_mulF (fun _ => True) (fun i j => i * j) := by
  intro w0 ad b r en sb x y vx vy q h hs hx hy hF
  unfold ai_mulF at hF
  obtain ⟨px, h1, hF⟩ := Option.bind_eq_some_iff.mp hF
  obtain ⟨py, h2, hF⟩ := Option.bind_eq_some_iff.mp hF
  split at hF
  · rename_i hc
    obtain ⟨c1, -, c2, c3, c4⟩ := hc
    obtain ⟨-, zx, i, gx, rfl, kx, a1, a2⟩ := ai_i_ok h hx h1
    obtain ⟨-, zy, j, gy, rfl, ky, b1, b2⟩ := ai_i_ok h hy h2
    have c5 := ai_irs c4
    have ej : j.toInt = py.1 := by omega
    have m1 : px.1 * py.1 ≤ i.toInt * py.1 := Int.mul_le_mul_of_nonneg_right a1 c2
    have m2 : i.toInt * py.1 ≤ px.2 * py.1 := Int.mul_le_mul_of_nonneg_right a2 c2
    injection hF with hF
    subst hF
    exact ⟨i, j, rfl, rfl, trivial, ai_mulc_ok h hs gx kx a1 a2 c2 c3 (by rw [ai_mulI (by rw [ej]; omega) (by rw [ej]; omega), ej])⟩
  · split at hF
    · rename_i hc
      obtain ⟨c1, -, c2, c3, c4⟩ := hc
      obtain ⟨-, zx, i, gx, rfl, kx, a1, a2⟩ := ai_i_ok h hx h1
      obtain ⟨-, zy, j, gy, rfl, ky, b1, b2⟩ := ai_i_ok h hy h2
      have c5 := ai_irs c4
      have ei : i.toInt = px.1 := by omega
      have m1 : py.1 * px.1 ≤ j.toInt * px.1 := Int.mul_le_mul_of_nonneg_right b1 c2
      have m2 : j.toInt * px.1 ≤ py.2 * px.1 := Int.mul_le_mul_of_nonneg_right b2 c2
      injection hF with hF
      subst hF
      exact ⟨i, j, rfl, rfl, trivial, ai_mulc_ok h hs gy ky b1 b2 c2 c3 (by rw [ai_mulI (by rw [ei, Int.mul_comm]; omega) (by rw [ei, Int.mul_comm]; omega), ei, Int.mul_comm])⟩
    · exact ai_mul_ok w0 ad b r en sb x y vx vy q h hs hx hy hF
/-! bits of numbers below 128 -/
theorem bi_or1 : ∀ (o : Fin 128) (w : Fin 7), (Int32.ofNat o.val ||| Int32.ofNat (2 ^ w.val)).toInt = if o.val / 2 ^ w.val % 2 = 1 then (o.val : Int) else (o.val : Int) + ((2 ^ w.val : Nat) : Int) := by decide +kernel
theorem bi_or2 : ∀ (o : Fin 128) (c : Fin 16), ((o.val / 16 * 16 : Nat) : Int) ≤ (Int32.ofNat o.val ||| Int32.ofNat c.val).toInt ∧ (Int32.ofNat o.val ||| Int32.ofNat c.val).toInt ≤ ((o.val / 16 * 16 : Nat) : Int) + 15 := by decide +kernel
theorem bi_shr : ∀ (o : Fin 128) (w : Fin 7), (Int32.ofNat o.val >>> (Int32.ofNat w.val &&& 31)).toInt = ((o.val / 2 ^ w.val : Nat) : Int) := by decide +kernel
theorem bi_shl : ∀ (w : Fin 7), ((1 : Int32) <<< (Int32.ofNat w.val &&& 31)).toInt = ((2 ^ w.val : Nat) : Int) := by decide +kernel
theorem bi_and : ∀ (o : Fin 128), (Int32.ofNat o.val &&& 1).toInt = ((o.val % 2 : Nat) : Int) := by decide +kernel
theorem bi_of {i : Int32} {n : Nat} (h : i.toInt = (n : Int)) (hn : n < 2147483648) : i = Int32.ofNat n := Int32.toInt_inj.mp (by
  have e : (Int32.ofNat n).toInt = (n : Int) := nI_toInt (by omega)
  rw [h, e])
def bi_w (c : Int) : Nat := if c = 16 then 4 else if c = 32 then 5 else 6
def ai_orF (en : List ai_e) (sb : List ai_b) (x y : ai_v) : Option ai_q :=
  (ai_i en x).bind fun p => (ai_i en y).bind fun q =>
    if 0 ≤ p.1 ∧ p.2 ≤ 127 ∧ q.1 = q.2 ∧ (q.1 = 16 ∨ q.1 = 32 ∨ q.1 = 64) ∧ p.1 / q.1 = p.2 / q.1 then
      (if p.1 / q.1 % 2 = 1 then some (en, sb, (1, x.2.1, 0, x.2.2.2)) else some (en, sb, (1, x.2.1, 0, x.2.2.2 + q.1)))
    else if 0 ≤ p.1 ∧ p.2 ≤ 127 ∧ 0 ≤ q.1 ∧ q.2 ≤ 15 ∧ p.1 / 16 = p.2 / 16 then some ((ai_mi en (p.1 / 16 * 16) (p.1 / 16 * 16 + 15)).1, sb, (ai_mi en (p.1 / 16 * 16) (p.1 / 16 * 16 + 15)).2)
    else ai_top en sb x y
theorem bi_dv {c : Int} (hc : c = 16 ∨ c = 32 ∨ c = 64) {a b : Int} {z : Int} (h : a / c = b / c) (h1 : a ≤ z) (h2 : z ≤ b) : z / c = a / c := by
  rcases hc with rfl | rfl | rfl <;> omega
theorem ai_orF_ok : ai_O2 ai_orF (fun _ => True) (fun i j => i ||| j) := by
  intro w0 ad b r en sb x y vx vy q h hs hx hy hF
  unfold ai_orF at hF
  obtain ⟨px, h1, hF⟩ := Option.bind_eq_some_iff.mp hF
  obtain ⟨py, h2, hF⟩ := Option.bind_eq_some_iff.mp hF
  split at hF
  · rename_i hc
    obtain ⟨c1, c2, c3, c4, c5⟩ := hc
    obtain ⟨-, zx, i, gx, rfl, kx, a1, a2⟩ := ai_i_ok h hx h1
    obtain ⟨-, zy, j, gy, rfl, ky, b1, b2⟩ := ai_i_ok h hy h2
    have ej : j.toInt = py.1 := by omega
    have hz := bi_dv c4 c5 a1 a2
    obtain ⟨o, ho⟩ : ∃ o : Nat, i.toInt = (o : Int) := ⟨i.toInt.toNat, by omega⟩
    have key : (i ||| j).toInt = if i.toInt / py.1 % 2 = 1 then i.toInt else i.toInt + py.1 := by
      rw [bi_of ho (by omega), ← ej]
      rcases c4 with c4 | c4 | c4
      · have := bi_or1 ⟨o, by omega⟩ 4
        rw [bi_of (i := j) (n := 16) (by rw [ej, c4]; rfl) (by decide)]
        have e1 : (Int32.ofNat o).toInt = (o : Int) := nI_toInt (by omega)
        have e2 : (Int32.ofNat 16).toInt = 16 := rfl
        rw [e1, e2]
        have this : (Int32.ofNat o ||| Int32.ofNat 16).toInt = if o / 16 % 2 = 1 then (o : Int) else (o : Int) + 16 := this
        rw [this]
        by_cases hb : o / 16 % 2 = 1
        · rw [if_pos hb, if_pos (by omega)]
        · rw [if_neg hb, if_neg (by omega)]
      · have := bi_or1 ⟨o, by omega⟩ 5
        rw [bi_of (i := j) (n := 32) (by rw [ej, c4]; rfl) (by decide)]
        have e1 : (Int32.ofNat o).toInt = (o : Int) := nI_toInt (by omega)
        have e2 : (Int32.ofNat 32).toInt = 32 := rfl
        rw [e1, e2]
        have this : (Int32.ofNat o ||| Int32.ofNat 32).toInt = if o / 32 % 2 = 1 then (o : Int) else (o : Int) + 32 := this
        rw [this]
        by_cases hb : o / 32 % 2 = 1
        · rw [if_pos hb, if_pos (by omega)]
        · rw [if_neg hb, if_neg (by omega)]
      · have := bi_or1 ⟨o, by omega⟩ 6
        rw [bi_of (i := j) (n := 64) (by rw [ej, c4]; rfl) (by decide)]
        have e1 : (Int32.ofNat o).toInt = (o : Int) := nI_toInt (by omega)
        have e2 : (Int32.ofNat 64).toInt = 64 := rfl
        rw [e1, e2]
        have this : (Int32.ofNat o ||| Int32.ofNat 64).toInt = if o / 64 % 2 = 1 then (o : Int) else (o : Int) + 64 := this
        rw [this]
        by_cases hb : o / 64 % 2 = 1
        · rw [if_pos hb, if_pos (by omega)]
        · rw [if_neg hb, if_neg (by omega)]
    rw [hz] at key
    split at hF
    · rename_i hb
      rw [if_pos hb] at key
      injection hF with hF
      subst hF
      exact ⟨i, j, rfl, rfl, trivial, r, ai_x.rf, h, hs, Or.inr (Or.inl ⟨rfl, zx, _, gx, rfl, by show (i ||| j).toInt = zx + x.2.2.2; omega⟩)⟩
    · rename_i hb
      rw [if_neg hb] at key
      injection hF with hF
      subst hF
      exact ⟨i, j, rfl, rfl, trivial, r, ai_x.rf, h, hs, Or.inr (Or.inl ⟨rfl, zx, _, gx, rfl, by show (i ||| j).toInt = zx + (x.2.2.2 + py.1); omega⟩)⟩
  · split at hF
    · rename_i hc
      obtain ⟨c1, c2, c3, c4, c5⟩ := hc
      obtain ⟨-, zx, i, gx, rfl, kx, a1, a2⟩ := ai_i_ok h hx h1
      obtain ⟨-, zy, j, gy, rfl, ky, b1, b2⟩ := ai_i_ok h hy h2
      obtain ⟨o, ho⟩ : ∃ o : Nat, i.toInt = (o : Int) := ⟨i.toInt.toNat, by omega⟩
      obtain ⟨u, hu⟩ : ∃ u : Nat, j.toInt = (u : Int) := ⟨j.toInt.toNat, by omega⟩
      have k2 := bi_or2 ⟨o, by omega⟩ ⟨u, by omega⟩
      have k3 : ((o / 16 * 16 : Nat) : Int) ≤ (i ||| j).toInt ∧ (i ||| j).toInt ≤ ((o / 16 * 16 : Nat) : Int) + 15 := by
        rw [bi_of ho (by omega), bi_of hu (by omega)]
        exact k2
      injection hF with hF
      subst hF
      obtain ⟨r', e1, e2, e3⟩ := ai_mi_ok (ad := ad) (b := b) (lo := px.1 / 16 * 16) (hi := px.1 / 16 * 16 + 15) h (i ||| j) (fun _ => by omega)
      exact ⟨i, j, rfl, rfl, trivial, r', e1, e2, hs.mono e1, e3⟩
    · exact ai_top_ok (fun i j => i ||| j) w0 ad b r en sb x y vx vy q h hs hx hy hF
def ai_shrF : List ai_e → List ai_b → ai_v → ai_v → Option ai_q := ai_bop fun p q => if 0 ≤ p.1 ∧ p.2 ≤ 127 ∧ q.1 = q.2 ∧ 0 ≤ q.1 ∧ q.1 ≤ 6 then some (((p.1.toNat / 2 ^ q.1.toNat : Nat) : Int), ((p.2.toNat / 2 ^ q.1.toNat : Nat) : Int)) else some (-2147483648, 2147483647)
theorem ai_shrF_ok : ai_O2 ai_shrF (fun _ => True) (fun i j => i >>> (j &&& 31)) := ai_bop_ok fun p q w i j a1 a2 b1 b2 hw => by
  refine ⟨trivial, fun _ => ?_⟩
  split at hw
  · rename_i hc
    obtain ⟨c1, c2, c3, c4, c5⟩ := hc
    cases hw
    obtain ⟨o, ho⟩ : ∃ o : Nat, i.toInt = (o : Int) := ⟨i.toInt.toNat, by omega⟩
    obtain ⟨u, hu⟩ : ∃ u : Nat, q.1 = (u : Int) := ⟨q.1.toNat, by omega⟩
    have k2 : (Int32.ofNat o >>> (Int32.ofNat u &&& 31)).toInt = ((o / 2 ^ u : Nat) : Int) := bi_shr ⟨o, by omega⟩ ⟨u, by omega⟩
    have k3 : (i >>> (j &&& 31)).toInt = ((o / 2 ^ u : Nat) : Int) := by rw [bi_of ho (by omega), bi_of (i := j) (n := u) (by omega) (by omega), k2]
    have m1 : p.1.toNat / 2 ^ u ≤ o / 2 ^ u := Nat.div_le_div_right (by omega)
    have m2 : o / 2 ^ u ≤ p.2.toNat / 2 ^ u := Nat.div_le_div_right (by omega)
    dsimp only
    rw [k3, show q.1.toNat = u by omega]
    exact ⟨Int.ofNat_le.mpr m1, Int.ofNat_le.mpr m2⟩
  · cases hw
    exact ai_irg _
def ai_shlF : List ai_e → List ai_b → ai_v → ai_v → Option ai_q := ai_bop fun p q => if p.1 = 1 ∧ p.2 = 1 ∧ 0 ≤ q.1 ∧ q.2 ≤ 6 then some (((2 ^ q.1.toNat : Nat) : Int), ((2 ^ q.2.toNat : Nat) : Int)) else some (-2147483648, 2147483647)
theorem ai_shlF_ok : ai_O2 ai_shlF (fun _ => True) (fun i j => i <<< (j &&& 31)) := ai_bop_ok fun p q w i j a1 a2 b1 b2 hw => by
  refine ⟨trivial, fun _ => ?_⟩
  split at hw
  · rename_i hc
    obtain ⟨c1, c2, c3, c4⟩ := hc
    cases hw
    obtain ⟨u, hu⟩ : ∃ u : Nat, j.toInt = (u : Int) := ⟨j.toInt.toNat, by omega⟩
    have k2 : ((1 : Int32) <<< (Int32.ofNat u &&& 31)).toInt = ((2 ^ u : Nat) : Int) := bi_shl ⟨u, by omega⟩
    have hi : i = 1 := Int32.toInt_inj.mp (by show i.toInt = 1; omega)
    have k3 : (i <<< (j &&& 31)).toInt = ((2 ^ u : Nat) : Int) := by rw [hi, bi_of hu (by omega), k2]
    have m1 : 2 ^ q.1.toNat ≤ 2 ^ u := Nat.pow_le_pow_right (by decide) (by omega)
    have m2 : 2 ^ u ≤ 2 ^ q.2.toNat := Nat.pow_le_pow_right (by decide) (by omega)
    dsimp only
    rw [k3]
    exact ⟨Int.ofNat_le.mpr m1, Int.ofNat_le.mpr m2⟩
  · cases hw
    exact ai_irg _
def ai_andF : List ai_e → List ai_b → ai_v → ai_v → Option ai_q := ai_bop fun p q => if p.1 = p.2 ∧ 0 ≤ p.1 ∧ p.1 ≤ 127 ∧ q.1 = 1 ∧ q.2 = 1 then some (p.1 % 2, p.1 % 2) else if 0 ≤ q.1 then some (0, q.2) else some (-2147483648, 2147483647)
theorem ai_andF_ok : ai_O2 ai_andF (fun _ => True) (fun i j => i &&& j) := ai_bop_ok fun p q w i j a1 a2 b1 b2 hw => by
  refine ⟨trivial, fun _ => ?_⟩
  split at hw
  · rename_i hc
    obtain ⟨c1, c2, c3, c4, c5⟩ := hc
    cases hw
    obtain ⟨o, ho⟩ : ∃ o : Nat, i.toInt = (o : Int) := ⟨i.toInt.toNat, by omega⟩
    have hj : j = 1 := Int32.toInt_inj.mp (by show j.toInt = 1; omega)
    have k2 : (Int32.ofNat o &&& 1).toInt = ((o % 2 : Nat) : Int) := bi_and ⟨o, by omega⟩
    have k3 : (i &&& j).toInt = ((o % 2 : Nat) : Int) := by rw [hj, bi_of ho (by omega), k2]
    dsimp only
    omega
  · split at hw
    · cases hw
      have := ai_andI i j (by omega)
      dsimp only
      omega
    · cases hw
      exact ai_irg _
end
section
/-! branches narrow the names' bounds -/
def ai_cl (en : List ai_e) (a : Nat) (lo hi : Int) : Option (List ai_e) := match en[a]? with
  | some e => if max e.1 lo ≤ min e.2.1 hi then some (en.set a (max e.1 lo, min e.2.1 hi, e.2.2)) else none
  | none => some en
theorem ai_ok.set {r : List Int} {en : List ai_e} {a : Nat} {z : Int} {e : ai_e} (h : ai_ok r en) (hz : r[a]? = some z) (he : ai_oe r z e) : ai_ok r (en.set a e) := by
  refine ⟨by simp [h.1], fun k y f h1 h2 => ?_⟩
  by_cases hk : a = k
  · subst hk
    rw [h1] at hz
    cases hz
    have hl : a < en.length := by rw [← h.1]; exact (List.getElem?_eq_some_iff.mp h1).1
    rw [List.getElem?_set_self hl] at h2
    cases h2
    exact he
  · rw [List.getElem?_set_ne hk] at h2
    exact h.2 k y f h1 h2
theorem ai_cl_ok {r : List Int} {en : List ai_e} {a : Nat} {z lo hi : Int} (h : ai_ok r en) (hz : r[a]? = some z) (h1 : lo ≤ z) (h2 : z ≤ hi) : ∃ en', ai_cl en a lo hi = some en' ∧ ai_ok r en' := by
  obtain ⟨e, he, g1, g2, g3⟩ := h.get hz
  unfold ai_cl
  rw [he]
  dsimp only
  rw [if_pos (by omega)]
  refine ⟨_, rfl, h.set hz ⟨?_, ?_, g3⟩⟩
  · show max e.1 lo ≤ z
    omega
  · show z ≤ min e.2.1 hi
    omega
def ai_nz (en : List ai_e) (a : Nat) : List ai_e := match en[a]? with
  | some e => en.set a (e.1, e.2.1, true, e.2.2.2)
  | none => en
theorem ai_nz_ok {r : List Int} {en : List ai_e} {a : Nat} {z : Int} (h : ai_ok r en) (hz : r[a]? = some z) (h1 : z ≠ 0) : ai_ok r (ai_nz en a) := by
  obtain ⟨e, he, g1, g2, g3, g4⟩ := h.get hz
  unfold ai_nz
  rw [he]
  exact h.set hz ⟨g1, g2, fun _ => h1, g4⟩
/-- 0 =, 1 not =, 2 <, 3 not <, 4 >, else not >: of a name and another with an offset -/
def ai_rel (op : Nat) (x y : Int) : Prop := match op with
  | 0 => x = y
  | 1 => x ≠ y
  | 2 => x < y
  | 3 => y ≤ x
  | 4 => y < x
  | _ => x ≤ y
/-- a name isn't c -/
def ai_nc (en : List ai_e) (a : Nat) (e : ai_e) (c : Int) : Option (List ai_e) :=
  if e.1 = c then ai_cl en a (c + 1) e.2.1 else if e.2.1 = c then ai_cl en a e.1 (c - 1) else if c = 0 then some (ai_nz en a) else some en
theorem ai_nc_ok {r : List Int} {en : List ai_e} {a : Nat} {z c : Int} {e : ai_e} (h : ai_ok r en) (hz : r[a]? = some z) (he : ai_oe r z e) (hc : z ≠ c) : ∃ en', ai_nc en a e c = some en' ∧ ai_ok r en' := by
  obtain ⟨g1, g2, -⟩ := he
  unfold ai_nc
  split
  · exact ai_cl_ok h hz (by omega) g2
  · split
    · exact ai_cl_ok h hz g1 (by omega)
    · split
      · rename_i h0
        subst h0
        exact ⟨_, rfl, ai_nz_ok h hz hc⟩
      · exact ⟨_, rfl, h⟩
def ai_c2 (en : List ai_e) (a b : Nat) (l1 h1 l2 h2 : Int) : Option (List ai_e) := (ai_cl en a l1 h1).bind fun en1 => ai_cl en1 b l2 h2
theorem ai_c2_ok {r : List Int} {en : List ai_e} {a b : Nat} {za zb l1 h1 l2 h2 : Int} (h : ai_ok r en) (ha : r[a]? = some za) (hb : r[b]? = some zb) (g1 : l1 ≤ za) (g2 : za ≤ h1) (g3 : l2 ≤ zb) (g4 : zb ≤ h2) : ∃ en', ai_c2 en a b l1 h1 l2 h2 = some en' ∧ ai_ok r en' := by
  obtain ⟨e1, q1, k1⟩ := ai_cl_ok h ha g1 g2
  obtain ⟨e2, q2, k2⟩ := ai_cl_ok k1 hb g3 g4
  exact ⟨e2, by unfold ai_c2; rw [q1]; exact q2, k2⟩
def ai_rf (en : List ai_e) (op a b : Nat) (o : Int) : Option (List ai_e) := match en[a]?, en[b]? with
  | some ea, some eb =>
    if a = b then (match op with
      | 0 => if o = 0 then some en else none
      | 1 => if o = 0 then none else some en
      | 2 => if 0 < o then some en else none
      | 3 => if o ≤ 0 then some en else none
      | 4 => if o < 0 then some en else none
      | _ => if 0 ≤ o then some en else none)
    else (match op with
      | 0 => ai_c2 en a b (eb.1 + o) (eb.2.1 + o) (ea.1 - o) (ea.2.1 - o)
      | 1 => if eb.1 = eb.2.1 then ai_nc en a ea (eb.1 + o) else if ea.1 = ea.2.1 then ai_nc en b eb (ea.1 - o) else some en
      | 2 => ai_c2 en a b ea.1 (eb.2.1 + o - 1) (ea.1 + 1 - o) eb.2.1
      | 3 => ai_c2 en a b (eb.1 + o) ea.2.1 eb.1 (ea.2.1 - o)
      | 4 => ai_c2 en a b (eb.1 + o + 1) ea.2.1 eb.1 (ea.2.1 - o - 1)
      | _ => ai_c2 en a b ea.1 (eb.2.1 + o) (ea.1 - o) eb.2.1)
  | _, _ => some en
theorem ai_rf_ok {r : List Int} {en : List ai_e} {op a b : Nat} {o za zb : Int} (h : ai_ok r en) (ha : r[a]? = some za) (hb : r[b]? = some zb) (hr : ai_rel op za (zb + o)) : ∃ en', ai_rf en op a b o = some en' ∧ ai_ok r en' := by
  obtain ⟨ea, qa, oa⟩ := h.get ha
  obtain ⟨eb, qb, ob⟩ := h.get hb
  have a1 := oa.1
  have a2 := oa.2.1
  have b1 := ob.1
  have b2 := ob.2.1
  unfold ai_rf
  rw [qa, qb]
  dsimp only
  by_cases hab : a = b
  · rw [if_pos hab]
    subst hab
    rw [ha] at hb
    cases hb
    rcases op with _ | _ | _ | _ | _ | op
    · exact ⟨en, if_pos (by have hr : za = za + o := hr; omega), h⟩
    · exact ⟨en, if_neg (by have hr : za ≠ za + o := hr; omega), h⟩
    · exact ⟨en, if_pos (by have hr : za < za + o := hr; omega), h⟩
    · exact ⟨en, if_pos (by have hr : za + o ≤ za := hr; omega), h⟩
    · exact ⟨en, if_pos (by have hr : za + o < za := hr; omega), h⟩
    · exact ⟨en, if_pos (by have hr : za ≤ za + o := hr; omega), h⟩
  · rw [if_neg hab]
    rcases op with _ | _ | _ | _ | _ | op
    · have hr : za = zb + o := hr
      exact ai_c2_ok h ha hb (by omega) (by omega) (by omega) (by omega)
    · have hr : za ≠ zb + o := hr
      show ∃ en', (if eb.1 = eb.2.1 then ai_nc en a ea (eb.1 + o) else if ea.1 = ea.2.1 then ai_nc en b eb (ea.1 - o) else some en) = some en' ∧ ai_ok r en'
      split
      · exact ai_nc_ok h ha oa (by omega)
      · split
        · exact ai_nc_ok h hb ob (by omega)
        · exact ⟨en, rfl, h⟩
    · have hr : za < zb + o := hr
      exact ai_c2_ok h ha hb (by omega) (by omega) (by omega) (by omega)
    · have hr : zb + o ≤ za := hr
      exact ai_c2_ok h ha hb (by omega) (by omega) (by omega) (by omega)
    · have hr : zb + o < za := hr
      exact ai_c2_ok h ha hb (by omega) (by omega) (by omega) (by omega)
    · have hr : za ≤ zb + o := hr
      exact ai_c2_ok h ha hb (by omega) (by omega) (by omega) (by omega)
/-! longs -/
def ai_P2 (F : List ai_e → ai_v → ai_v → Option (List ai_e × ai_v)) (side : Int64 → Prop) (f : Int64 → Int64 → Int64) : Prop :=
  ∀ (ad : List Nat) (b : Nat) (r : List Int) (en : List ai_e) (x y : ai_v) (vx vy : Value) (q : List ai_e × ai_v), ai_ok r en → ai_dv ad b r x vx → ai_dv ad b r y vy → F en x y = some q →
    ∃ i j : Int64, vx = .long i ∧ vy = .long j ∧ side j ∧ ∃ r', ai_x r r' ∧ ai_ok r' q.1 ∧ ai_dv ad b r' q.2 (.long (f i j))
def ai_lop (nz : Bool) (g : Int × Int → Int × Int → Int × Int) (en : List ai_e) (x y : ai_v) : Option (List ai_e × ai_v) :=
  (ai_l en x).bind fun p => (ai_l en y).bind fun q =>
    if nz = false ∨ 0 < q.1 ∨ q.2 < 0 ∨ (y.2.2.2 = 0 ∧ (en[y.2.1]?).any (fun e => e.2.2.1) = true) then some (ai_ml en (g p q).1 (g p q).2) else none
theorem ai_lop_ok {nz : Bool} {g : Int × Int → Int × Int → Int × Int} {f : Int64 → Int64 → Int64}
    (hg : ∀ (p q : Int × Int) (i j : Int64), p.1 ≤ i.toInt → i.toInt ≤ p.2 → q.1 ≤ j.toInt → j.toInt ≤ q.2 → ai_lr (g p q).1 (g p q).2 = true → (g p q).1 ≤ (f i j).toInt ∧ (f i j).toInt ≤ (g p q).2) : ai_P2 (ai_lop nz g) (fun j => nz = true → ¬ j = 0) f := by
  intro ad b r en x y vx vy q h hx hy hF
  unfold ai_lop at hF
  obtain ⟨px, h1, hF⟩ := Option.bind_eq_some_iff.mp hF
  obtain ⟨py, h2, hF⟩ := Option.bind_eq_some_iff.mp hF
  obtain ⟨-, zx, i, -, rfl, -, a1, a2⟩ := ai_l_ok h hx h1
  obtain ⟨-, zy, j, gy, rfl, ky, b1, b2⟩ := ai_l_ok h hy h2
  split at hF
  · rename_i hc
    cases hF
    obtain ⟨r', e1, e2, e3⟩ := ai_ml_ok (ad := ad) (b := b) (lo := (g px py).1) (hi := (g px py).2) h (f i j) (hg px py i j a1 a2 b1 b2)
    refine ⟨i, j, rfl, rfl, fun hn => ?_, r', e1, e2, e3⟩
    rintro rfl
    have e0 : (0 : Int64).toInt = 0 := rfl
    rcases hc with hc | hc | hc | ⟨c1, c2⟩
    · rw [hn] at hc
      cases hc
    · omega
    · omega
    · obtain ⟨e, he, -, -, g3, -⟩ := h.get gy
      rw [he] at c2
      have := g3 c2
      omega
  · cases hF
def ai_ladd : List ai_e → ai_v → ai_v → Option (List ai_e × ai_v) := ai_lop false fun p q => (p.1 + q.1, p.2 + q.2)
theorem ai_ladd_ok : ai_P2 ai_ladd (fun j => false = true → ¬ j = 0) (fun i j => i + j) := ai_lop_ok fun p q i j a1 a2 b1 b2 hr => by
  have := ai_lrs hr
  dsimp only at this ⊢
  rw [ai_addL] <;> omega
def ai_ltop (nz : Bool) : List ai_e → ai_v → ai_v → Option (List ai_e × ai_v) := ai_lop nz fun _ _ => (-9223372036854775808, 9223372036854775807)
theorem ai_ltop_ok (nz : Bool) (f : Int64 → Int64 → Int64) : ai_P2 (ai_ltop nz) (fun j => nz = true → ¬ j = 0) f := ai_lop_ok fun p q i j a1 a2 b1 b2 hr => ai_lrg _
theorem ai_mulL {i j : Int64} (h1 : -9223372036854775808 ≤ i.toInt * j.toInt) (h2 : i.toInt * j.toInt ≤ 9223372036854775807) : (i * j).toInt = i.toInt * j.toInt := by
  rw [Int64.toInt_mul, Int.bmod_eq_of_le] <;> omega
def ai_lmul : List ai_e → ai_v → ai_v → Option (List ai_e × ai_v) := ai_lop false fun p q => (ai_mn (p.1 * q.1) (p.1 * q.2) (p.2 * q.1) (p.2 * q.2), ai_mx (p.1 * q.1) (p.1 * q.2) (p.2 * q.1) (p.2 * q.2))
theorem ai_lmul_ok : ai_P2 ai_lmul (fun j => false = true → ¬ j = 0) (fun i j => i * j) := ai_lop_ok fun p q i j a1 a2 b1 b2 hr => by
  have c3 := ai_lrs hr
  have c4 := ai_prod a1 a2 b1 b2
  dsimp only at c3 ⊢
  rw [ai_mulL] <;> omega
end
section
/-! the cells, each of a fixed kind: (0, its class, its fields), (1, its length, its elements' bounds, as often as wanted) of ints, (2, ..) of booleans, (3, length, -) of longs, (4, length, rows) -/
abbrev ai_f : Type := Nat × Nat × Int × Int
abbrev ai_ty : Type := List (ClassId × FieldType)
def ai_fd (ad : List Nat) (f : ai_f) (x : Value) : Prop :=
  (f.1 = 0 ∧ ∃ q, ad[f.2.1]? = some q ∧ x = .ref q) ∨ (f.1 = 1 ∧ ∃ i : Int32, x = .int i ∧ f.2.2.1 ≤ i.toInt ∧ i.toInt ≤ f.2.2.2) ∨ (f.1 = 2 ∧ ∃ i : Int64, x = .long i)
def ai_hasT (tys : ai_ty) (cA : ClassId) (ty : FieldType) : Prop := ∃ k : Nat, tys[k]? = some (cA, ty)
def ai_pt (pat : List ai_f) (i : Nat) : Option ai_f := pat[i % pat.length]?
def ai_ety (n : Nat) : FieldType := if n = 1 then .int else .boolean
def ai_ce (ad : List Nat) (tys : ai_ty) (t : ai_c) (e : va_E) : Prop :=
  (t.1 = 0 ∧ ∃ fs : List Value, e = .inr (t.2.1, fs) ∧ fs.length = t.2.2.length ∧ ∀ (i : Nat) (f : ai_f), t.2.2[i]? = some f → ∃ x, fs[i]? = some x ∧ ai_fd ad f x) ∨
  ((t.1 = 1 ∨ t.1 = 2) ∧ ∃ (cA : ClassId) (f : Nat → Int32), e = .inl (cA, t.2.1, .inl f) ∧ ai_hasT tys cA (ai_ety t.1) ∧ ∀ (i : Nat) (q : ai_f), i < t.2.1 → ai_pt t.2.2 i = some q → q.2.2.1 ≤ (f i).toInt ∧ (f i).toInt ≤ q.2.2.2) ∨
  (t.1 = 3 ∧ ∃ (cA : ClassId) (f : Nat → Int64), e = .inl (cA, t.2.1, .inr (.inl f)) ∧ ai_hasT tys cA .long) ∨
  (t.1 = 4 ∧ ∃ (cA : ClassId) (f : Nat → Option Nat), e = .inl (cA, t.2.1, .inr (.inr (.inr (.inr f)))) ∧ ai_hasT tys cA (.array .int) ∧ ∀ (i : Nat) (q : ai_f), t.2.2[i]? = some q → ∃ a, ad[q.2.1]? = some a ∧ f i = some a)
def ai_wd (TY : List ai_c) (ad : List Nat) (tys : ai_ty) (ws : va_W) : Prop :=
  ws.length = TY.length ∧ ad.length = TY.length ∧ (∀ (k : Nat) (q : Nat × va_E), ws[k]? = some q → ad[k]? = some q.1) ∧ ∀ (k : Nat) (t : ai_c) (q : Nat × va_E), TY[k]? = some t → ws[k]? = some q → ai_ce ad tys t q.2
theorem ai_wd.get {TY : List ai_c} {ad : List Nat} {tys : ai_ty} {ws : va_W} (h : ai_wd TY ad tys ws) {c : Nat} {t : ai_c} (ht : TY[c]? = some t) : ∃ (a : Nat) (e : va_E), ws[c]? = some (a, e) ∧ ad[c]? = some a ∧ ai_ce ad tys t e := by
  have hl : c < ws.length := by rw [h.1]; exact (List.getElem?_eq_some_iff.mp ht).1
  have h1 := List.getElem?_eq_getElem hl
  exact ⟨ws[c].1, ws[c].2, h1, h.2.2.1 _ _ h1, h.2.2.2 _ _ _ ht h1⟩
theorem ai_wd.set {TY : List ai_c} {ad : List Nat} {tys : ai_ty} {ws : va_W} (h : ai_wd TY ad tys ws) {c a : Nat} {t : ai_c} {e e' : va_E} (ht : TY[c]? = some t) (hc : ws[c]? = some (a, e)) (he : ai_ce ad tys t e') : ai_wd TY ad tys (ws.set c (a, e')) := by
  have hl : c < ws.length := (List.getElem?_eq_some_iff.mp hc).1
  refine ⟨by simp [h.1], h.2.1, fun k q hq => ?_, fun k t' q hk hq => ?_⟩
  · by_cases hk : c = k
    · subst hk
      rw [List.getElem?_set_self hl] at hq
      cases hq
      exact h.2.2.1 c (a, e) hc
    · rw [List.getElem?_set_ne hk] at hq
      exact h.2.2.1 k q hq
  · by_cases hck : c = k
    · subst hck
      rw [List.getElem?_set_self hl] at hq
      cases hq
      rw [ht] at hk
      cases hk
      exact he
    · rw [List.getElem?_set_ne hck] at hq
      exact h.2.2.2 k t' q hk hq
/-- what stands at a place of a cell -/
def ai_sl (ws : va_W) (c i : Nat) (x : Value) : Prop := ∃ (a : Nat) (e : va_E), ws[c]? = some (a, e) ∧ ((∃ (ci : Nat) (fs : List Value), e = .inr (ci, fs) ∧ fs[i]? = some x) ∨ ∃ (cA : ClassId) (n : Nat) (f : Nat → Int32), e = .inl (cA, n, .inl f) ∧ i < n ∧ x = .int (f i))
theorem fx_o_sl {w : va_W} {c i : Nat} {t : Int} (h : fx_o w c i = some t) : ∃ j : Int32, ai_sl w c i (.int j) ∧ j.toInt = t := by
  unfold fx_o at h
  split at h
  · rename_i a cA n f hw
    split at h
    · rename_i hi
      injection h with h
      exact ⟨f i, ⟨a, _, hw, Or.inr ⟨cA, n, f, rfl, hi, rfl⟩⟩, h⟩
    · cases h
  · cases h
theorem fx_sl_o {w : va_W} {c i : Nat} {j : Int32} (h : ∃ (a : Nat) (cA : ClassId) (n : Nat) (f : Nat → Int32), w[c]? = some (a, .inl (cA, n, .inl f)) ∧ i < n ∧ f i = j) : fx_o w c i = some j.toInt := by
  obtain ⟨a, cA, n, f, h1, h2, h3⟩ := h
  unfold fx_o
  rw [h1]
  show (if i < n then some (f i).toInt else none) = _
  rw [if_pos h2, h3]
theorem ai_sl.fun {ws : va_W} {c i : Nat} {x y : Value} (h : ai_sl ws c i x) (k : ai_sl ws c i y) : x = y := by
  obtain ⟨a, e, h1, h2⟩ := h
  obtain ⟨a', e', k1, k2⟩ := k
  rw [h1] at k1
  cases k1
  rcases h2 with ⟨ci, fs, rfl, h2⟩ | ⟨cA, n, f, rfl, h2, h3⟩
  · rcases k2 with ⟨ci', fs', q, k2⟩ | ⟨_, _, _, q, _⟩
    · cases q
      rw [h2] at k2
      cases k2
      rfl
    · cases q
  · rcases k2 with ⟨_, _, q, _⟩ | ⟨_, _, _, q, k2, k3⟩
    · cases q
    · cases q
      rw [h3, k3]
theorem ai_sl.setF {ws : va_W} {c i a ci : Nat} {fs : List Value} {v : Value} (hc : ws[c]? = some (a, .inr (ci, fs))) {c' i' : Nat} {x : Value} (h : ai_sl ws c' i' x) (hne : c' = c → i' ≠ i) : ai_sl (ws.set c (a, .inr (ci, fs.set i v))) c' i' x := by
  have hl : c < ws.length := (List.getElem?_eq_some_iff.mp hc).1
  obtain ⟨a', e', h1, h2⟩ := h
  by_cases hk : c' = c
  · subst hk
    rw [hc] at h1
    cases h1
    rcases h2 with ⟨_, _, q, h2⟩ | ⟨_, _, _, q, _⟩
    · cases q
      refine ⟨a, _, List.getElem?_set_self hl, Or.inl ⟨ci, _, rfl, ?_⟩⟩
      rw [List.getElem?_set_ne (Ne.symm (hne rfl))]
      exact h2
    · cases q
  · exact ⟨a', e', by rw [List.getElem?_set_ne (fun q => hk q.symm)]; exact h1, h2⟩
theorem ai_sl.setA {ws : va_W} {c j a n : Nat} {cA : ClassId} {f g : Nat → Int32} (hc : ws[c]? = some (a, .inl (cA, n, .inl f))) {c' i' : Nat} {x : Value} (h : ai_sl ws c' i' x) (hne : c' = c → i' < n → g i' = f i') : ai_sl (ws.set c (a, .inl (cA, n, .inl g))) c' i' x := by
  have hl : c < ws.length := (List.getElem?_eq_some_iff.mp hc).1
  obtain ⟨a', e', h1, h2⟩ := h
  by_cases hk : c' = c
  · subst hk
    rw [hc] at h1
    cases h1
    rcases h2 with ⟨_, _, q, h2⟩ | ⟨_, _, _, q, h2, h3⟩
    · cases q
    · cases q
      exact ⟨a, _, List.getElem?_set_self hl, Or.inr ⟨cA, n, g, rfl, h2, by rw [hne rfl h2]; exact h3⟩⟩
  · exact ⟨a', e', by rw [List.getElem?_set_ne (fun q => hk q.symm)]; exact h1, h2⟩
theorem ai_sl.setL {ws : va_W} {c a n : Nat} {cA : ClassId} {f g : Nat → Int64} (hc : ws[c]? = some (a, .inl (cA, n, .inr (.inl f)))) {c' i' : Nat} {x : Value} (h : ai_sl ws c' i' x) : ai_sl (ws.set c (a, .inl (cA, n, .inr (.inl g)))) c' i' x := by
  have hl : c < ws.length := (List.getElem?_eq_some_iff.mp hc).1
  obtain ⟨a', e', h1, h2⟩ := h
  by_cases hk : c' = c
  · subst hk
    rw [hc] at h1
    cases h1
    rcases h2 with ⟨_, _, q, h2⟩ | ⟨_, _, _, q, h2, h3⟩
    · cases q
    · cases q
  · exact ⟨a', e', by rw [List.getElem?_set_ne (fun q => hk q.symm)]; exact h1, h2⟩
def ai_kn (ad : List Nat) (b : Nat) (r : List Int) (ws : va_W) (kn : List ai_k) : Prop := ∀ q ∈ kn, ∃ x, ai_sl ws q.1 q.2.1 x ∧ ai_dv ad b r q.2.2 x
theorem ai_kn.mono {ad : List Nat} {b : Nat} {r r' : List Int} {ws : va_W} {kn : List ai_k} (h : ai_kn ad b r ws kn) (e : ai_x r r') : ai_kn ad b r' ws kn := fun q hq => by
  obtain ⟨x, h1, h2⟩ := h q hq
  exact ⟨x, h1, h2.mono e⟩
/-- the places that may be written; nothing else changes -/
def ai_wr (WR : List (Nat × Nat × Nat)) (c lo hi : Nat) : Bool := WR.any fun q => (decide (q.1 = c) || decide (q.1 = 1000)) && decide (q.2.1 ≤ lo) && decide (hi < q.2.2)
def ai_fr (WR : List (Nat × Nat × Nat)) (w0 ws : va_W) : Prop := ∀ (c i : Nat) (x : Value), ai_wr WR c i i = false → ai_sl w0 c i x → ai_sl ws c i x
theorem ai_wr_in {WR : List (Nat × Nat × Nat)} {c lo hi i : Nat} (h : ai_wr WR c lo hi = true) (h1 : lo ≤ i) (h2 : i ≤ hi) : ai_wr WR c i i = true := by
  unfold ai_wr at *
  obtain ⟨q, hq, h⟩ := List.any_eq_true.mp h
  simp only [Bool.and_eq_true, Bool.or_eq_true, decide_eq_true_eq] at h
  exact List.any_eq_true.mpr ⟨q, hq, by simp only [Bool.and_eq_true, Bool.or_eq_true, decide_eq_true_eq]; omega⟩
/-- what is known of a place -/
def ai_lk (kn : List ai_k) (c i : Nat) : Option ai_v := (kn.find? fun q => Nat.beq q.2.1 i && Nat.beq q.1 c).map fun q => q.2.2
theorem ai_lk_ok {ad : List Nat} {b : Nat} {r : List Int} {ws : va_W} {kn : List ai_k} (h : ai_kn ad b r ws kn) {c i : Nat} {v : ai_v} (hv : ai_lk kn c i = some v) : ∃ x, ai_sl ws c i x ∧ ai_dv ad b r v x := by
  unfold ai_lk at hv
  obtain ⟨q, hq, rfl⟩ := Option.map_eq_some_iff.mp hv
  have hm := List.mem_of_find?_eq_some hq
  have hp := List.find?_some hq
  simp only [Bool.and_eq_true, ai_beq] at hp
  obtain ⟨x, h1, h2⟩ := h q hm
  rw [hp.2, hp.1] at h1
  exact ⟨x, h1, h2⟩
/-- a field read -/
def ai_rd (TY : List ai_c) (en : List ai_e) (kn : List ai_k) (ci c i : Nat) : Option (List ai_e × List ai_k × ai_v) :=
  (TY[c]?).bind fun t => if t.1 = 0 ∧ t.2.1 = ci then (t.2.2[i]?).bind fun f =>
    if f.1 = 0 then some (en, kn, (0, f.2.1, 0, 0))
    else if f.1 = 1 then (match ai_lk kn c i with
      | some v => some (en, kn, v)
      | none => some (ai_nu en f.2.2.1 f.2.2.2, (c, i, (1, en.length, 0, 0)) :: kn, (1, en.length, 0, 0)))
    else some (ai_nu en (-9223372036854775808) 9223372036854775807, kn, (2, en.length, 0, 0)) else none
theorem ai_rd_ok {TY : List ai_c} {ad : List Nat} {b : Nat} {tys : ai_ty} {r : List Int} {ws : va_W} {en : List ai_e} {kn : List ai_k} {ci c i : Nat} {q : List ai_e × List ai_k × ai_v} (h : ai_ok r en) (hw : ai_wd TY ad tys ws) (hk : ai_kn ad b r ws kn) (hq : ai_rd TY en kn ci c i = some q) :
    ∃ (a : Nat) (fs : List Value) (x : Value), ws[c]? = some (a, .inr (ci, fs)) ∧ ad[c]? = some a ∧ fs[i]? = some x ∧ ∃ r', ai_x r r' ∧ ai_ok r' q.1 ∧ ai_kn ad b r' ws q.2.1 ∧ ai_dv ad b r' q.2.2 x := by
  unfold ai_rd at hq
  obtain ⟨t, ht, hq⟩ := Option.bind_eq_some_iff.mp hq
  split at hq
  · rename_i hc
    obtain ⟨f, hf, hq⟩ := Option.bind_eq_some_iff.mp hq
    obtain ⟨a, e, w1, w2, w3⟩ := hw.get ht
    rcases w3 with ⟨-, fs, rfl, g1, g2⟩ | ⟨q1, -⟩ | ⟨q1, -⟩ | ⟨q1, -⟩
    · obtain ⟨x, k1, k2⟩ := g2 i f hf
      rw [hc.2] at w1
      refine ⟨a, fs, x, w1, w2, k1, ?_⟩
      have hsl : ai_sl ws c i x := ⟨a, _, w1, Or.inl ⟨ci, fs, rfl, k1⟩⟩
      split at hq
      · rename_i f0
        cases hq
        rcases k2 with ⟨-, k2⟩ | ⟨q1, -⟩ | ⟨q1, -⟩
        · exact ⟨r, ai_x.rf, h, hk, Or.inl ⟨rfl, k2⟩⟩
        · omega
        · omega
      · split at hq
        · rename_i f0 f1
          rcases k2 with ⟨q1, -⟩ | ⟨-, j, rfl, j1, j2⟩ | ⟨q1, -⟩
          · omega
          · split at hq
            · rename_i v hv
              cases hq
              obtain ⟨y, y1, y2⟩ := ai_lk_ok hk hv
              rw [hsl.fun y1]
              exact ⟨r, ai_x.rf, h, hk, y2⟩
            · cases hq
              have hd : ai_dv ad b (r ++ [j.toInt]) (1, en.length, 0, 0) (.int j) := Or.inr (Or.inl ⟨rfl, j.toInt, j, ai_last h.1, rfl, by show j.toInt = j.toInt + 0; omega⟩)
              refine ⟨r ++ [j.toInt], ai_x.push, h.nu j1 j2, ?_, hd⟩
              intro k hkm
              rcases List.mem_cons.mp hkm with rfl | hkm
              · exact ⟨_, hsl, hd⟩
              · exact hk.mono ai_x.push k hkm
          · omega
        · rename_i f0 f1
          rcases k2 with ⟨q1, -⟩ | ⟨q1, -⟩ | ⟨-, j, rfl⟩
          · omega
          · omega
          · cases hq
            exact ⟨r ++ [j.toInt], ai_x.push, h.nu (ai_lrg j).1 (ai_lrg j).2, hk.mono ai_x.push, Or.inr (Or.inr (Or.inl ⟨rfl, j.toInt, j, ai_last h.1, rfl, by show j.toInt = j.toInt + 0; omega⟩))⟩
    · omega
    · omega
    · omega
  · cases hq
def ai_dr (kn : List ai_k) (c lo hi : Nat) : List ai_k := kn.filter fun q => !(Nat.beq q.1 c && (Nat.ble lo q.2.1 && Nat.ble q.2.1 hi))
theorem ai_dr_in {kn : List ai_k} {c lo hi : Nat} {q : ai_k} (h : q ∈ ai_dr kn c lo hi) : q ∈ kn ∧ (q.1 = c → q.2.1 < lo ∨ hi < q.2.1) := by
  unfold ai_dr at h
  obtain ⟨h1, h2⟩ := List.mem_filter.mp h
  refine ⟨h1, fun hc => ?_⟩
  have h2 : ¬ (Nat.beq q.1 c && (Nat.ble lo q.2.1 && Nat.ble q.2.1 hi)) = true := fun h => by rw [h] at h2; cases h2
  rw [Bool.and_eq_true, Bool.and_eq_true, ai_beq, Nat.ble_eq, Nat.ble_eq] at h2
  omega
/-- a field written: an int within its bounds, or a long -/
def ai_wf (TY : List ai_c) (WR : List (Nat × Nat × Nat)) (en : List ai_e) (kn : List ai_k) (ci c i : Nat) (v : ai_v) : Option (List ai_k) :=
  (TY[c]?).bind fun t => if t.1 = 0 ∧ t.2.1 = ci ∧ ai_wr WR c i i = true then (t.2.2[i]?).bind fun f =>
    if f.1 = 1 then (ai_i en v).bind fun p => if f.2.2.1 ≤ p.1 ∧ p.2 ≤ f.2.2.2 then some ((c, i, v) :: ai_dr kn c i i) else none
    else if f.1 = 2 ∧ v.1 = 2 then some (ai_dr kn c i i) else none else none
theorem ai_wf_ok {TY : List ai_c} {WR : List (Nat × Nat × Nat)} {ad : List Nat} {b : Nat} {tys : ai_ty} {r : List Int} {w0 ws : va_W} {en : List ai_e} {kn kn' : List ai_k} {ci c i : Nat} {v : ai_v} {x : Value} (h : ai_ok r en) (hw : ai_wd TY ad tys ws) (hk : ai_kn ad b r ws kn) (hfr : ai_fr WR w0 ws) (hv : ai_dv ad b r v x) (hq : ai_wf TY WR en kn ci c i v = some kn') :
    ∃ (a : Nat) (fs : List Value), ws[c]? = some (a, .inr (ci, fs)) ∧ ad[c]? = some a ∧ i < fs.length ∧ ((∃ j : Int32, x = .int j) ∨ ∃ j : Int64, x = .long j) ∧ ai_wd TY ad tys (ws.set c (a, .inr (ci, fs.set i x))) ∧ ai_kn ad b r (ws.set c (a, .inr (ci, fs.set i x))) kn' ∧ ai_fr WR w0 (ws.set c (a, .inr (ci, fs.set i x))) ∧ ((TY[c]?).bind fun t => t.2.2[i]?).map (fun f => f.1) = some (match x with | .int _ => 1 | _ => 2) := by
  unfold ai_wf at hq
  obtain ⟨t, ht, hq⟩ := Option.bind_eq_some_iff.mp hq
  split at hq
  · rename_i hc
    obtain ⟨f, hf, hq⟩ := Option.bind_eq_some_iff.mp hq
    obtain ⟨a, e, w1, w2, w3⟩ := hw.get ht
    rcases w3 with ⟨t0, fs, rfl, g1, g2⟩ | ⟨q1, -⟩ | ⟨q1, -⟩ | ⟨q1, -⟩
    · have hi : i < fs.length := by rw [g1]; exact (List.getElem?_eq_some_iff.mp hf).1
      have w1' : ws[c]? = some (a, .inr (ci, fs)) := by rw [← hc.2.1]; exact w1
      have hl : c < ws.length := (List.getElem?_eq_some_iff.mp w1).1
      have key : ∀ (y : Value), ai_fd ad f y → ai_wd TY ad tys (ws.set c (a, .inr (ci, fs.set i y))) := fun y hy => by
        refine hw.set ht w1' (Or.inl ⟨t0, fs.set i y, by rw [hc.2.1], by simp [g1], fun j g hj => ?_⟩)
        by_cases hij : i = j
        · subst hij
          rw [hf] at hj
          cases hj
          exact ⟨y, List.getElem?_set_self hi, hy⟩
        · rw [List.getElem?_set_ne hij]
          exact g2 j g hj
      have key2 : ∀ (y : Value), ai_fr WR w0 (ws.set c (a, .inr (ci, fs.set i y))) := fun y c' i' z hz h0 => by
        refine (hfr c' i' z hz h0).setF w1' (fun hcc hii => ?_)
        subst hcc
        subst hii
        rw [hc.2.2] at hz
        cases hz
      have key3 : ∀ (y : Value), ai_kn ad b r (ws.set c (a, .inr (ci, fs.set i y))) (ai_dr kn c i i) := fun y q hq => by
        obtain ⟨m1, m2⟩ := ai_dr_in hq
        obtain ⟨z, z1, z2⟩ := hk q m1
        exact ⟨z, z1.setF w1' (fun hcc => by have := m2 hcc; omega), z2⟩
      split at hq
      · rename_i f1
        obtain ⟨p, hp, hq⟩ := Option.bind_eq_some_iff.mp hq
        split at hq
        · rename_i hb
          cases hq
          obtain ⟨-, zz, j, k1, rfl, k3, k4, k5⟩ := ai_i_ok h hv hp
          refine ⟨a, fs, w1', w2, hi, Or.inl ⟨j, rfl⟩, key _ (Or.inr (Or.inl ⟨f1, j, rfl, by omega, by omega⟩)), ?_, key2 _, by rw [ht]; simp [hf, f1]⟩
          intro q hq
          rcases List.mem_cons.mp hq with rfl | hq
          · exact ⟨.int j, ⟨a, _, List.getElem?_set_self hl, Or.inl ⟨ci, _, rfl, List.getElem?_set_self hi⟩⟩, hv⟩
          · exact key3 _ q hq
        · cases hq
      · split at hq
        · rename_i f1 f2
          cases hq
          rcases hv with ⟨q1, -⟩ | ⟨q1, -⟩ | ⟨-, z, j, j1, rfl, j3⟩ | ⟨q1, -⟩ | ⟨q1, -⟩
          · omega
          · omega
          · exact ⟨a, fs, w1', w2, hi, Or.inr ⟨j, rfl⟩, key _ (Or.inr (Or.inr ⟨f2.1, j, rfl⟩)), key3 _, key2 _, by rw [ht]; simp [hf, f2.1]⟩
          · omega
          · omega
        · cases hq
    · omega
    · omega
    · omega
  · cases hq
end
section
/-! arrays -/
/-- the hull of the bounds of the elements lo .. lo + k -/
def ai_hl (pat : List ai_f) (lo : Nat) : Nat → Option (Int × Int)
  | 0 => (ai_pt pat lo).map fun q => (q.2.2.1, q.2.2.2)
  | k + 1 => (ai_hl pat lo k).bind fun w => (ai_pt pat (lo + (k + 1))).map fun q => (min w.1 q.2.2.1, max w.2 q.2.2.2)
theorem ai_hl_ok {pat : List ai_f} {lo : Nat} : ∀ {k : Nat} {w : Int × Int}, ai_hl pat lo k = some w → ∀ j, lo ≤ j → j ≤ lo + k → ∃ q, ai_pt pat j = some q ∧ w.1 ≤ q.2.2.1 ∧ q.2.2.2 ≤ w.2
  | 0, w, h, j, h1, h2 => by
    have e : j = lo := by omega
    subst e
    obtain ⟨q, hq, rfl⟩ := Option.map_eq_some_iff.mp (show (ai_pt pat j).map _ = some w from h)
    exact ⟨q, hq, Int.le_refl _, Int.le_refl _⟩
  | k + 1, w, h, j, h1, h2 => by
    obtain ⟨v, hv, h⟩ := Option.bind_eq_some_iff.mp (show (ai_hl pat lo k).bind _ = some w from h)
    obtain ⟨q, hq, rfl⟩ := Option.map_eq_some_iff.mp h
    by_cases hj : j = lo + (k + 1)
    · subst hj
      exact ⟨q, hq, by dsimp only; omega, by dsimp only; omega⟩
    · obtain ⟨q', h3, h4, h5⟩ := ai_hl_ok hv j h1 (by omega)
      exact ⟨q', h3, by dsimp only; omega, by dsimp only; omega⟩
/-- all the elements lo .. lo + k take what lies within p -/
def ai_ft (pat : List ai_f) (p : Int × Int) (lo : Nat) : Nat → Bool
  | 0 => (ai_pt pat lo).all fun q => decide (q.2.2.1 ≤ p.1) && decide (p.2 ≤ q.2.2.2)
  | k + 1 => ((ai_pt pat (lo + (k + 1))).all fun q => decide (q.2.2.1 ≤ p.1) && decide (p.2 ≤ q.2.2.2)) && ai_ft pat p lo k
theorem ai_ft_ok {pat : List ai_f} {p : Int × Int} {lo : Nat} : ∀ {k : Nat}, ai_ft pat p lo k = true → ∀ (j : Nat) (q : ai_f), lo ≤ j → j ≤ lo + k → ai_pt pat j = some q → q.2.2.1 ≤ p.1 ∧ p.2 ≤ q.2.2.2
  | 0, h, j, q, h1, h2, h3 => by
    have e : j = lo := by omega
    subst e
    have h : ((ai_pt pat j).all fun q => decide (q.2.2.1 ≤ p.1) && decide (p.2 ≤ q.2.2.2)) = true := h
    rw [h3] at h
    simpa using h
  | k + 1, h, j, q, h1, h2, h3 => by
    have h : (((ai_pt pat (lo + (k + 1))).all fun q => decide (q.2.2.1 ≤ p.1) && decide (p.2 ≤ q.2.2.2)) && ai_ft pat p lo k) = true := h
    rw [Bool.and_eq_true] at h
    by_cases hj : j = lo + (k + 1)
    · subst hj
      have h := h.1
      rw [h3] at h
      simpa using h
    · exact ai_ft_ok h.2 j q h1 (by omega) h3
def ai_hull (pat : List ai_f) (lo k : Nat) : Option (Int × Int) := if pat.length = 1 then ai_hl pat 0 0 else ai_hl pat lo k
theorem ai_hull_ok {pat : List ai_f} {lo k : Nat} {w : Int × Int} (h : ai_hull pat lo k = some w) (j : Nat) (h1 : lo ≤ j) (h2 : j ≤ lo + k) : ∃ q, ai_pt pat j = some q ∧ w.1 ≤ q.2.2.1 ∧ q.2.2.2 ≤ w.2 := by
  unfold ai_hull at h
  split at h
  · rename_i hl
    obtain ⟨q, a1, a2, a3⟩ := ai_hl_ok h 0 (by omega) (by omega)
    have e0 : ai_pt pat 0 = ai_pt pat j := by
      unfold ai_pt
      rw [hl, Nat.mod_one, Nat.mod_one]
    exact ⟨q, e0.symm.trans a1, a2, a3⟩
  · exact ai_hl_ok h j h1 h2
def ai_fit (pat : List ai_f) (p : Int × Int) (lo k : Nat) : Bool := if pat.length = 1 then ai_ft pat p 0 0 else ai_ft pat p lo k
theorem ai_fit_ok {pat : List ai_f} {p : Int × Int} {lo k : Nat} (h : ai_fit pat p lo k = true) (j : Nat) (q : ai_f) (h1 : lo ≤ j) (h2 : j ≤ lo + k) (h3 : ai_pt pat j = some q) : q.2.2.1 ≤ p.1 ∧ p.2 ≤ q.2.2.2 := by
  unfold ai_fit at h
  split at h
  · rename_i hl
    have e0 : ai_pt pat 0 = ai_pt pat j := by
      unfold ai_pt
      rw [hl, Nat.mod_one, Nat.mod_one]
    exact ai_ft_ok h 0 q (by omega) (by omega) (e0.trans h3)
  · exact ai_ft_ok h j q h1 h2 h3
theorem ai_idx {i : Int32} {lo hi : Int} {n : Nat} (h1 : lo ≤ i.toInt) (h2 : i.toInt ≤ hi) (h3 : 0 ≤ lo) (h4 : hi < n) : vp_in i n ∧ lo.toNat ≤ i.toNatClampNeg ∧ i.toNatClampNeg ≤ lo.toNat + (hi.toNat - lo.toNat) ∧ i.toNatClampNeg < n := by
  have h : vp_in i n := vp_in_iff.mpr ⟨by omega, by omega⟩
  have e : (i.toNatClampNeg : Int) = i.toInt := by
    show ((i.toInt.toNat : Nat) : Int) = i.toInt
    omega
  exact ⟨h, by omega, by omega, by omega⟩
/-- an element read -/
def ai_ra (TY : List ai_c) (en : List ai_e) (kn : List ai_k) (tg c : Nat) (iv : ai_v) : Option (List ai_e × List ai_k × ai_v) :=
  (TY[c]?).bind fun t => (ai_i en iv).bind fun p => if t.1 = tg ∧ 0 ≤ p.1 ∧ p.2 < t.2.1 then
    (if p.1 = p.2 then (match ai_lk kn c p.1.toNat with
      | some v => some (en, kn, v)
      | none => (ai_hull t.2.2 p.1.toNat 0).map fun w => (ai_nu en w.1 w.2, (c, p.1.toNat, (1, en.length, 0, 0)) :: kn, (1, en.length, 0, 0)))
    else (ai_hull t.2.2 p.1.toNat (p.2.toNat - p.1.toNat)).map fun w => (ai_nu en w.1 w.2, kn, (1, en.length, 0, 0))) else none
theorem ai_ra_ok {TY : List ai_c} {ad : List Nat} {b : Nat} {tys : ai_ty} {r : List Int} {ws : va_W} {en : List ai_e} {kn : List ai_k} {tg c : Nat} {iv : ai_v} {vi : Value} {q : List ai_e × List ai_k × ai_v} (htg : tg = 1 ∨ tg = 2) (h : ai_ok r en) (hw : ai_wd TY ad tys ws) (hk : ai_kn ad b r ws kn) (hv : ai_dv ad b r iv vi) (hq : ai_ra TY en kn tg c iv = some q) :
    ∃ (a : Nat) (cA : ClassId) (n : Nat) (f : Nat → Int32) (i : Int32), vi = .int i ∧ ws[c]? = some (a, .inl (cA, n, .inl f)) ∧ ad[c]? = some a ∧ ai_hasT tys cA (ai_ety tg) ∧ vp_in i n ∧ ∃ r', ai_x r r' ∧ ai_ok r' q.1 ∧ ai_kn ad b r' ws q.2.1 ∧ ai_dv ad b r' q.2.2 (.int (f i.toNatClampNeg)) := by
  unfold ai_ra at hq
  obtain ⟨t, ht, hq⟩ := Option.bind_eq_some_iff.mp hq
  obtain ⟨p, hp, hq⟩ := Option.bind_eq_some_iff.mp hq
  obtain ⟨-, z, i, -, rfl, -, i1, i2⟩ := ai_i_ok h hv hp
  split at hq
  · rename_i hc
    obtain ⟨c1, c2, c3⟩ := hc
    obtain ⟨a, e, w1, w2, w3⟩ := hw.get ht
    rcases w3 with ⟨q1, -⟩ | ⟨-, cA, f, rfl, g1, g2⟩ | ⟨q1, -⟩ | ⟨q1, -⟩
    · omega
    · obtain ⟨x1, x2, x3, x4⟩ := ai_idx i1 i2 c2 c3
      rw [c1] at g1
      refine ⟨a, cA, t.2.1, f, i, rfl, w1, w2, g1, x1, ?_⟩
      have hsl : ai_sl ws c i.toNatClampNeg (.int (f i.toNatClampNeg)) := ⟨a, _, w1, Or.inr ⟨cA, t.2.1, f, rfl, x4, rfl⟩⟩
      have hd : ai_dv ad b (r ++ [(f i.toNatClampNeg).toInt]) (1, en.length, 0, 0) (.int (f i.toNatClampNeg)) := Or.inr (Or.inl ⟨rfl, _, _, ai_last h.1, rfl, by show (f i.toNatClampNeg).toInt = (f i.toNatClampNeg).toInt + 0; omega⟩)
      split at hq
      · rename_i hpp
        have hi : i.toNatClampNeg = p.1.toNat := by omega
        split at hq
        · rename_i v hv'
          cases hq
          obtain ⟨y, y1, y2⟩ := ai_lk_ok hk hv'
          rw [← hi] at y1
          rw [hsl.fun y1]
          exact ⟨r, ai_x.rf, h, hk, y2⟩
        · obtain ⟨w, hw', rfl⟩ := Option.map_eq_some_iff.mp hq
          obtain ⟨qq, k1, k2, k3⟩ := ai_hull_ok hw' i.toNatClampNeg (by omega) (by omega)
          have := g2 _ _ x4 k1
          refine ⟨r ++ [(f i.toNatClampNeg).toInt], ai_x.push, h.nu (by omega) (by omega), ?_, hd⟩
          intro k hkm
          rcases List.mem_cons.mp hkm with rfl | hkm
          · exact ⟨_, by rw [← hi]; exact hsl, hd⟩
          · exact hk.mono ai_x.push k hkm
      · obtain ⟨w, hw', rfl⟩ := Option.map_eq_some_iff.mp hq
        obtain ⟨qq, k1, k2, k3⟩ := ai_hull_ok hw' i.toNatClampNeg (by omega) (by omega)
        have := g2 _ _ x4 k1
        exact ⟨r ++ [(f i.toNatClampNeg).toInt], ai_x.push, h.nu (by omega) (by omega), hk.mono ai_x.push, hd⟩
    · omega
    · omega
  · cases hq
/-- an element written -/
def ai_wa (TY : List ai_c) (WR : List (Nat × Nat × Nat)) (en : List ai_e) (kn : List ai_k) (tg c : Nat) (iv v : ai_v) : Option (List ai_k) :=
  (TY[c]?).bind fun t => (ai_i en iv).bind fun p => (ai_i en v).bind fun w =>
    if t.1 = tg ∧ 0 ≤ p.1 ∧ p.2 < t.2.1 ∧ ai_wr WR c p.1.toNat p.2.toNat = true ∧ ai_fit t.2.2 w p.1.toNat (p.2.toNat - p.1.toNat) = true ∧ (tg = 1 ∨ (0 ≤ w.1 ∧ w.2 ≤ 1)) then
      some (if p.1 = p.2 then (c, p.1.toNat, v) :: ai_dr kn c p.1.toNat p.2.toNat else ai_dr kn c p.1.toNat p.2.toNat) else none
theorem ai_upd_ne {f : Nat → Int32} {k j : Nat} {x : Int32} (h : j ≠ k) : upd f k x j = f j := pk_un h
theorem ai_wa_ok {TY : List ai_c} {WR : List (Nat × Nat × Nat)} {ad : List Nat} {b : Nat} {tys : ai_ty} {r : List Int} {w0 ws : va_W} {en : List ai_e} {kn kn' : List ai_k} {tg c : Nat} {iv v : ai_v} {vi x : Value} (htg : tg = 1 ∨ tg = 2) (h : ai_ok r en) (hw : ai_wd TY ad tys ws) (hk : ai_kn ad b r ws kn) (hfr : ai_fr WR w0 ws) (hi : ai_dv ad b r iv vi) (hv : ai_dv ad b r v x) (hq : ai_wa TY WR en kn tg c iv v = some kn') :
    ∃ (a : Nat) (cA : ClassId) (n : Nat) (f : Nat → Int32) (i j : Int32), vi = .int i ∧ x = .int j ∧ ws[c]? = some (a, .inl (cA, n, .inl f)) ∧ ad[c]? = some a ∧ ai_hasT tys cA (ai_ety tg) ∧ vp_in i n ∧ (tg = 1 ∨ (0 ≤ j.toInt ∧ j.toInt ≤ 1)) ∧
      ai_wd TY ad tys (ws.set c (a, .inl (cA, n, .inl (upd f i.toNatClampNeg j)))) ∧ ai_kn ad b r (ws.set c (a, .inl (cA, n, .inl (upd f i.toNatClampNeg j)))) kn' ∧ ai_fr WR w0 (ws.set c (a, .inl (cA, n, .inl (upd f i.toNatClampNeg j)))) := by
  unfold ai_wa at hq
  obtain ⟨t, ht, hq⟩ := Option.bind_eq_some_iff.mp hq
  obtain ⟨p, hp, hq⟩ := Option.bind_eq_some_iff.mp hq
  obtain ⟨w, hw', hq⟩ := Option.bind_eq_some_iff.mp hq
  obtain ⟨-, z, i, -, rfl, -, i1, i2⟩ := ai_i_ok h hi hp
  obtain ⟨-, z2, j, -, rfl, -, j1, j2⟩ := ai_i_ok h hv hw'
  split at hq
  · rename_i hc
    obtain ⟨c1, c2, c3, c4, c5, c6⟩ := hc
    obtain ⟨a, e, w1, w2, w3⟩ := hw.get ht
    rcases w3 with ⟨q1, -⟩ | ⟨t0, cA, f, rfl, g1, g2⟩ | ⟨q1, -⟩ | ⟨q1, -⟩
    · omega
    · obtain ⟨x1, x2, x3, x4⟩ := ai_idx i1 i2 c2 c3
      have hl : c < ws.length := (List.getElem?_eq_some_iff.mp w1).1
      have hd : ai_kn ad b r (ws.set c (a, .inl (cA, t.2.1, .inl (upd f i.toNatClampNeg j)))) (ai_dr kn c p.1.toNat p.2.toNat) := fun q hq => by
        obtain ⟨m1, m2⟩ := ai_dr_in hq
        obtain ⟨y, y1, y2⟩ := hk q m1
        exact ⟨y, y1.setA (j := 0) w1 (fun hcc _ => ai_upd_ne (by have := m2 hcc; omega)), y2⟩
      refine ⟨a, cA, t.2.1, f, i, j, rfl, rfl, w1, w2, by rw [← c1]; exact g1, x1, ?_, ?_, ?_, ?_⟩
      · rcases c6 with c6 | c6
        · exact Or.inl c6
        · exact Or.inr ⟨by omega, by omega⟩
      · refine hw.set ht w1 (Or.inr (Or.inl ⟨t0, cA, _, rfl, g1, fun k q hk1 hk2 => ?_⟩))
        by_cases hki : k = i.toNatClampNeg
        · subst hki
          have := ai_fit_ok c5 _ q (by omega) (by omega) hk2
          rw [pk_us]
          omega
        · rw [ai_upd_ne hki]
          exact g2 k q hk1 hk2
      · cases hq
        split
        · rename_i hpp
          intro q hq
          rcases List.mem_cons.mp hq with rfl | hq
          · refine ⟨.int j, ⟨a, _, List.getElem?_set_self hl, Or.inr ⟨cA, _, _, rfl, by show p.1.toNat < _; omega, ?_⟩⟩, hv⟩
            show _ = Value.int (upd f _ _ p.1.toNat)
            rw [show p.1.toNat = i.toNatClampNeg by omega, pk_us]
          · exact hd q hq
        · exact hd
      · intro c' i' y hy h0
        refine (hfr c' i' y hy h0).setA (j := 0) w1 (fun hcc _ => ai_upd_ne (fun hii => ?_))
        subst hcc
        subst hii
        rw [ai_wr_in c4 (by omega) (by omega)] at hy
        cases hy
    · omega
    · omega
  · cases hq
end
section
/-! the state of a walk, and what it stands for -/
def ai_sk (ad : List Nat) (b : Nat) (r : List Int) : List ai_v → List Value → Prop
  | [], [] => True
  | v :: vs, x :: xs => ai_dv ad b r v x ∧ ai_sk ad b r vs xs
  | _, _ => False
def ai_lo (ad : List Nat) (b : Nat) (r : List Int) : List (Nat × ai_v) → List (Nat × Value) → Prop
  | [], [] => True
  | q :: qs, y :: ys => q.1 = y.1 ∧ ai_dv ad b r q.2 y.2 ∧ ai_lo ad b r qs ys
  | _, _ => False
theorem ai_sk.mono {ad : List Nat} {b : Nat} {r r' : List Int} (e : ai_x r r') : ∀ {vs : List ai_v} {xs : List Value}, ai_sk ad b r vs xs → ai_sk ad b r' vs xs
  | [], [], _ => trivial
  | _ :: _, _ :: _, h => ⟨h.1.mono e, ai_sk.mono e h.2⟩
  | [], _ :: _, h => h.elim
  | _ :: _, [], h => h.elim
theorem ai_lo.mono {ad : List Nat} {b : Nat} {r r' : List Int} (e : ai_x r r') : ∀ {vs : List (Nat × ai_v)} {xs : List (Nat × Value)}, ai_lo ad b r vs xs → ai_lo ad b r' vs xs
  | [], [], _ => trivial
  | _ :: _, _ :: _, h => ⟨h.1, h.2.1.mono e, ai_lo.mono e h.2.2⟩
  | [], _ :: _, h => h.elim
  | _ :: _, [], h => h.elim
theorem ai_sk.cons {ad : List Nat} {b : Nat} {r : List Int} {v : ai_v} {vs : List ai_v} {xs : List Value} (h : ai_sk ad b r (v :: vs) xs) : ∃ (x : Value) (ys : List Value), xs = x :: ys ∧ ai_dv ad b r v x ∧ ai_sk ad b r vs ys := by
  cases xs with
  | nil => exact h.elim
  | cons x ys => exact ⟨x, ys, rfl, h.1, h.2⟩
theorem ai_sk.nil {ad : List Nat} {b : Nat} {r : List Int} {xs : List Value} (h : ai_sk ad b r [] xs) : xs = [] := by
  cases xs with
  | nil => rfl
  | cons x ys => exact h.elim
theorem ai_dv.cat {ad : List Nat} {b : Nat} {r : List Int} {v : ai_v} {x : Value} (h : ai_dv ad b r v x) : x.category = if v.1 = 2 then 2 else 1 := by
  rcases h with ⟨h, q, -, rfl⟩ | ⟨h, z, i, -, rfl, -⟩ | ⟨h, z, i, -, rfl, -⟩ | ⟨h, z, w, i, -, -, rfl, -⟩ | ⟨h, rfl⟩ <;> rw [h] <;> rfl
def ai_get (lo : List (Nat × ai_v)) (i : Nat) : Option ai_v := (lo.find? fun q => Nat.beq q.1 i).map fun q => q.2
theorem ai_get_ok {ad : List Nat} {b : Nat} {r : List Int} {i : Nat} {v : ai_v} : ∀ {lo : List (Nat × ai_v)} {lv : List (Nat × Value)}, ai_lo ad b r lo lv → ai_get lo i = some v → ∃ (k : Nat) (x : Value), lv[k]? = some (i, x) ∧ ai_dv ad b r v x
  | [], [], _, hg => by cases hg
  | [], _ :: _, h, _ => h.elim
  | _ :: _, [], h, _ => h.elim
  | q :: qs, y :: ys, h, hg => by
    obtain ⟨h1, h2, h3⟩ := h
    unfold ai_get at hg
    rw [List.find?_cons] at hg
    by_cases hq : q.1 = i
    · rw [ai_beq.mpr hq] at hg
      cases hg
      exact ⟨0, y.2, by rw [← hq, h1]; rfl, h2⟩
    · rw [show Nat.beq q.1 i = false from Bool.eq_false_iff.mpr fun h => hq (ai_beq.mp h)] at hg
      obtain ⟨k, x, k1, k2⟩ := ai_get_ok h3 hg
      exact ⟨k + 1, x, k1, k2⟩
theorem ai_lo.filter {ad : List Nat} {b : Nat} {r : List Int} {f : Nat × ai_v → Bool} {g : Nat × Value → Bool} (hfg : ∀ (q : Nat × ai_v) (y : Nat × Value), q.1 = y.1 → ai_dv ad b r q.2 y.2 → f q = g y) : ∀ {lo : List (Nat × ai_v)} {lv : List (Nat × Value)}, ai_lo ad b r lo lv → ai_lo ad b r (lo.filter f) (lv.filter g)
  | [], [], _ => trivial
  | [], _ :: _, h => h.elim
  | _ :: _, [], h => h.elim
  | q :: qs, y :: ys, h => by
    obtain ⟨h1, h2, h3⟩ := h
    rw [List.filter_cons, List.filter_cons, hfg q y h1 h2]
    by_cases hg : g y = true
    · rw [if_pos hg, if_pos hg]
      exact ⟨h1, h2, ai_lo.filter hfg h3⟩
    · rw [if_neg hg, if_neg hg]
      exact ai_lo.filter hfg h3
/-- a store of one word, of two -/
def ai_st1 (lo : List (Nat × ai_v)) (i : Nat) (v : ai_v) : List (Nat × ai_v) := (i, v) :: lo.filter fun q => !(q.1 == i) && !(q.1 + 1 == i && q.2.1 == 2)
def ai_st2 (lo : List (Nat × ai_v)) (i : Nat) (v : ai_v) : List (Nat × ai_v) := (i, v) :: lo.filter fun q => !(q.1 == i) && (!(q.1 == i + 1) && !(q.1 + 1 == i && q.2.1 == 2))
theorem ai_cat2 {ad : List Nat} {b : Nat} {r : List Int} {v : ai_v} {x : Value} (h : ai_dv ad b r v x) : (v.1 == 2) = (x.category == 2) := by
  rw [h.cat]
  by_cases hv : v.1 = 2
  · rw [hv]; rfl
  · rw [if_neg hv]
    simp [hv]
theorem ai_st1_ok {ad : List Nat} {b : Nat} {r : List Int} {lo : List (Nat × ai_v)} {lv : List (Nat × Value)} {i : Nat} {v : ai_v} {x : Value} (h : ai_lo ad b r lo lv) (hv : ai_dv ad b r v x) : ai_lo ad b r (ai_st1 lo i v) ((i, x) :: lv.filter (fun q => !(q.1 == i) && !(q.1 + 1 == i && q.2.category == 2))) :=
  ⟨rfl, hv, ai_lo.filter (fun q y h1 h2 => by rw [h1, ai_cat2 h2]) h⟩
theorem ai_st2_ok {ad : List Nat} {b : Nat} {r : List Int} {lo : List (Nat × ai_v)} {lv : List (Nat × Value)} {i : Nat} {v : ai_v} {x : Value} (h : ai_lo ad b r lo lv) (hv : ai_dv ad b r v x) : ai_lo ad b r (ai_st2 lo i v) ((i, x) :: lv.filter (fun q => !(q.1 == i) && (!(q.1 == i + 1) && !(q.1 + 1 == i && q.2.category == 2)))) :=
  ⟨rfl, hv, ai_lo.filter (fun q y h1 h2 => by rw [h1, ai_cat2 h2]) h⟩
/-- what a loop's head forgets: (kind, place, place, least, greatest, not 0, not below what it was), the locals and ranges of places that it drops, the measure, whether it grows -/
abbrev ai_a : Type := List (Nat × Nat × Nat × Int × Int × Bool × Bool) × List Nat × List (Nat × Nat × Nat) × Nat × Bool
/-- a method: its name, code, number of locals, answer's type, whether it reads the script, its instructions; its class's links: fields read, fields written, ints, longs, methods -/
abbrev ai_t : Type := List (Nat × Instr × Nat) × List (Nat × Nat × Nat) × List (Nat × Nat × Nat × Nat) × List (Nat × Int) × List (Nat × Int) × List (Nat × Nat × Nat × Nat × Nat) × List (Nat × ai_a)
abbrev ai_m : Type := MethodName × ByteArray × Nat × Option FieldType × Bool × ai_t
def ai_GT : List Cond := lw_tbl.filter goodWord
def ai_NW : List Cond := lw_tbl.filter fun w => match w with
  | .methodLinkNest _ _ _ _ => true
  | _ => false
def ai_JL : List Nat := [5, 5, 3, 3, 5, 6, 4]
def ai_JB : List (List Int32) := [[112, 108, 97, 105, 110], [115, 110, 97, 107, 101], [115, 101, 97], [97, 103, 101], [103, 117, 101, 115, 116], [108, 97, 117, 103, 104, 115], [112, 108, 97, 110]]
def ai_JX : List (Nat × String) := [(149, "plain"), (151, "snake"), (153, "sea"), (155, "age"), (157, "guest"), (159, "laughs"), (160, "plan")]
/-- the words' letters, and what the machine's own strings want -/
def ai_jt (adK adV : Nat → Nat) (A : Nat → Prop) (U : State) : Prop := vk_S 7 ai_JL ai_JB adK adV A U U.heap ∧ (∀ (i : Nat) (x : Nat × String), ai_JX[i]? = some x → vk_R RX2 x.1 x.2 (adK i) U) ∧ va_Z "java/lang/String" "COMPACT_STRINGS" "Z" (.int 1) A U U.heap ∧ va_Zq "jdk/internal/util/Preconditions" "SIOOBE_FORMATTER" "Ljava/util/function/BiFunction;" A U U.heap
theorem ai_jt.moved {adK adV : Nat → Nat} {A : Nat → Prop} {s U : State} {locs : List Loc} (hW : s.WarmedH U.vm) (hS : va_S A s.heap U.heap locs) (h : ai_jt adK adV A s) : ai_jt adK adV A U :=
  ⟨(h.1.kept hS.2.1).moved hW.alike, fun i x hx => (h.2.1 i x hx).warm hW, (h.2.2.1.kept hS.2.1).moved hW.alike, (h.2.2.2.kept hS.2.1).moved hW.alike⟩
theorem ai_jt.same {adK adV : Nat → Nat} {A : Nat → Prop} {s U : State} (hv : U.vm = s.vm) (hh : U.heap = s.heap) (h : ai_jt adK adV A s) : ai_jt adK adV A U := by
  have hal : s.vm.Alike U.vm := by rw [hv]; exact Vm.Alike.refl s.vm
  refine ⟨?_, fun i x hx => (h.2.1 i x hx).same hv, ?_, ?_⟩
  · rw [hh]; exact h.1.moved hal
  · rw [hh]; exact h.2.2.1.moved hal
  · rw [hh]; exact h.2.2.2.moved hal
def ai_nj (A : Nat → Prop) (U : State) : Prop := (∀ w ∈ ai_NW, va_Nw w U) ∧ ∃ adK adV : Nat → Nat, ai_jt adK adV A U
def ai_cx (M : ai_m) (d : Nat) (p : Program) (R : Room) (s : State) (m : MethodId) (args : Array Value) (c : Code) (D : va_G) (tys : ai_ty) (A : Nat → Prop) (b L : Nat) (xs : Nat → Int32) (cells slots : Nat) : Prop :=
  p.tables.exec = Jvm.exec ∧ c.code = M.2.1 ∧ c.maxLocals = M.2.2.1 ∧ s.vm.findClass M.1.cls = some m.cls ∧ (∀ w ∈ ai_GT, w.before args s = true) ∧ ai_nj A s ∧ va_K D vwCl tys s ∧ (∀ q, s.heap.size ≤ q → A q) ∧
  (d ≤ R.frames ∧ 36 * d ≤ R.locals ∧ cells ≤ R.cells ∧ slots ≤ R.slots) ∧ (M.2.2.2.2.1 = true → va_X b L xs s s.heap ∧ b < s.heap.size ∧ ¬ A b)
/-- the script's five ints at i (name 1) are the names 3 to 7 -/
def ai_sx (L : Nat) (sx : Nat → Int32) (r : List Int) : Prop := ∀ z : Int, r[1]? = some z → (0 ≤ z ∧ z + 4 < L) ∧ ∀ o : Nat, o ≤ 4 → r[3 + o]? = some (sx (z.toNat + o)).toInt
def ai_gm (TY : List ai_c) (WR : List (Nat × Nat × Nat)) (w0 : va_W) (ad : List Nat) (b L : Nat) (sx : Nat → Int32) (tys : ai_ty) (sc : Bool) (r : List Int) (st : ai_s) (lv : List (Nat × Value)) (sk : List Value) (ws : va_W) : Prop :=
  ai_ok r st.2.2.2.1 ∧ ai_sb w0 r st.2.2.2.2.2 ∧ ai_lo ad b r st.2.1 lv ∧ ai_sk ad b r st.2.2.1 sk ∧ ai_wd TY ad tys ws ∧ ai_kn ad b r ws st.2.2.2.2.1 ∧ ai_fr WR w0 ws ∧ (sc = true → ai_sx L sx r)
def ai_G (TY : List ai_c) (WR : List (Nat × Nat × Nat)) (w0 : va_W) (ad : List Nat) (M : ai_m) (p : Program) (l : Launch) (e : Env) (R : Room) (s : State) (m : MethodId) (args : Array Value) (below : List Frame) (meth : Method) (c : Code) (D : va_G) (tys : ai_ty) (A : Nat → Prop) (b L : Nat) (sx : Nat → Int32) (cells slots : Nat) (Q : State → Prop) (r0 : List Int) (st : ai_s) : Prop :=
  ∀ (r : List Int) (lv : List (Nat × Value)) (sk : List Value) (ws : va_W) (H : Heap) (locs : List Loc) (ls : Array Slot), ai_x r0 r → ai_gm TY WR w0 ad b L sx tys M.2.2.2.2.1 r st lv sk ws → va_P D vwCl ws H → va_D A ws → va_S A s.heap H locs → lv_has ls M.2.2.1 lv →
    W p l e R s m args below meth c H locs cells slots Q (F0 m st.1 ls sk)
section AIJ
variable {TY : List ai_c} {WR : List (Nat × Nat × Nat)} {w0 : va_W} {ad : List Nat} {M : ai_m} {d : Nat} {p : Program} {l : Launch} {e : Env} {R : Room} {s : State} {m : MethodId} {args : Array Value} {below : List Frame} {meth : Method} {c : Code} {D : va_G} {tys : ai_ty} {A : Nat → Prop} {b L : Nat} {sx : Nat → Int32} {cells slots : Nat} {Q : State → Prop} {r0 : List Int} {pc pc' : Nat} {lo : List (Nat × ai_v)} {sk : List ai_v} {en en' : List ai_e} {kn kn' : List ai_k} {sb sb' : List ai_b} {x y v : ai_v}
theorem ai_G.up {r1 : List Int} {st : ai_s} (h : ai_G TY WR w0 ad M p l e R s m args below meth c D tys A b L sx cells slots Q r0 st) (e1 : ai_x r0 r1) : ai_G TY WR w0 ad M p l e R s m args below meth c D tys A b L sx cells slots Q r1 st := fun r lv k ws H locs ls hx => h r lv k ws H locs ls (e1.tr hx)
theorem ai_sc1 {sc : Bool} {r r' : List Int} {L : Nat} {sx : Nat → Int32} (e1 : ai_x r r') (hl : 1 < r.length) (h : sc = true → ai_sx L sx r) : sc = true → ai_sx L sx r' := by
  intro hs z hz
  have hz' : r[1]? = some z := by
    obtain ⟨t, rfl⟩ := e1
    rw [List.getElem?_append_left hl] at hz
    exact hz
  obtain ⟨h1, h2⟩ := h hs z hz'
  exact ⟨h1, fun o ho => e1.at (h2 o ho)⟩
/-- two ints give one -/
theorem ai_J2 {F : List ai_e → List ai_b → ai_v → ai_v → Option ai_q} {side : Int32 → Prop} {f : Int32 → Int32 → Int32} {q : ai_q} (hO : ai_O2 F side f) (hn : 1 < en.length) (hq : F en sb x y = some q)
    (row : ∀ (H : Heap) (locs : List Loc) (ls : Array Slot) (rest : List Value) (i j : Int32), ls.size = M.2.2.1 → side j → W p l e R s m args below meth c H locs cells slots Q (F0 m pc' ls (.int (f i j) :: rest)) → W p l e R s m args below meth c H locs cells slots Q (F0 m pc ls (.int j :: .int i :: rest)))
    (k : ai_G TY WR w0 ad M p l e R s m args below meth c D tys A b L sx cells slots Q r0 (pc', lo, q.2.2 :: sk, q.1, kn, q.2.1)) : ai_G TY WR w0 ad M p l e R s m args below meth c D tys A b L sx cells slots Q r0 (pc, lo, y :: x :: sk, en, kn, sb) := by
  intro r lv skc ws H locs ls hx g hP hD hS hl
  obtain ⟨g1, g2, g3, g4, g5, g6, g7, g8⟩ := g
  obtain ⟨vy, s1, rfl, dy, k4⟩ := g4.cons
  obtain ⟨vx, s2, rfl, dx, k5⟩ := k4.cons
  obtain ⟨i, j, rfl, rfl, hs, r', e1, e2, e3, e4⟩ := hO w0 ad b r en sb x y vx vy q g1 g2 dx dy hq
  exact row H locs ls s2 i j hl.1 hs (k r' lv _ ws H locs ls (hx.tr e1) ⟨e2, e3, g3.mono e1, ⟨e4, k5.mono e1⟩, g5, g6.mono e1, g7, ai_sc1 e1 (by rw [g1.1]; exact hn) g8⟩ hP hD hS hl)
theorem ai_J2l {F : List ai_e → ai_v → ai_v → Option (List ai_e × ai_v)} {side : Int64 → Prop} {f : Int64 → Int64 → Int64} {q : List ai_e × ai_v} (hO : ai_P2 F side f) (hn : 1 < en.length) (hq : F en x y = some q)
    (row : ∀ (H : Heap) (locs : List Loc) (ls : Array Slot) (rest : List Value) (i j : Int64), side j → W p l e R s m args below meth c H locs cells slots Q (F0 m pc' ls (.long (f i j) :: rest)) → W p l e R s m args below meth c H locs cells slots Q (F0 m pc ls (.long j :: .long i :: rest)))
    (k : ai_G TY WR w0 ad M p l e R s m args below meth c D tys A b L sx cells slots Q r0 (pc', lo, q.2 :: sk, q.1, kn, sb)) : ai_G TY WR w0 ad M p l e R s m args below meth c D tys A b L sx cells slots Q r0 (pc, lo, y :: x :: sk, en, kn, sb) := by
  intro r lv skc ws H locs ls hx g hP hD hS hl
  obtain ⟨g1, g2, g3, g4, g5, g6, g7, g8⟩ := g
  obtain ⟨vy, s1, rfl, dy, k4⟩ := g4.cons
  obtain ⟨vx, s2, rfl, dx, k5⟩ := k4.cons
  obtain ⟨i, j, rfl, rfl, hs, r', e1, e2, e4⟩ := hO ad b r en x y vx vy q g1 dx dy hq
  exact row H locs ls s2 i j hs (k r' lv _ ws H locs ls (hx.tr e1) ⟨e2, g2.mono e1, g3.mono e1, ⟨e4, k5.mono e1⟩, g5, g6.mono e1, g7, ai_sc1 e1 (by rw [g1.1]; exact hn) g8⟩ hP hD hS hl)
/-- a constant -/
theorem ai_Jc {n : Int} {v : Int32} (hv : v.toInt = n) (hz : ai_z en = true)
    (row : ∀ (H : Heap) (locs : List Loc) (ls : Array Slot) (rest : List Value), W p l e R s m args below meth c H locs cells slots Q (F0 m pc' ls (.int v :: rest)) → W p l e R s m args below meth c H locs cells slots Q (F0 m pc ls rest))
    (k : ai_G TY WR w0 ad M p l e R s m args below meth c D tys A b L sx cells slots Q r0 (pc', lo, (1, 0, 0, n) :: sk, en, kn, sb)) : ai_G TY WR w0 ad M p l e R s m args below meth c D tys A b L sx cells slots Q r0 (pc, lo, sk, en, kn, sb) := by
  intro r lv skc ws H locs ls hx g hP hD hS hl
  obtain ⟨g1, g2, g3, g4, g5, g6, g7, g8⟩ := g
  exact row H locs ls skc (k r lv _ ws H locs ls hx ⟨g1, g2, g3, ⟨Or.inr (Or.inl ⟨rfl, 0, v, ai_z_ok g1 hz, rfl, by show v.toInt = 0 + n; omega⟩), g4⟩, g5, g6, g7, g8⟩ hP hD hS hl)
theorem ai_Jcl {n : Int} {v : Int64} (hv : v.toInt = n) (hz : ai_z en = true)
    (row : ∀ (H : Heap) (locs : List Loc) (ls : Array Slot) (rest : List Value), W p l e R s m args below meth c H locs cells slots Q (F0 m pc' ls (.long v :: rest)) → W p l e R s m args below meth c H locs cells slots Q (F0 m pc ls rest))
    (k : ai_G TY WR w0 ad M p l e R s m args below meth c D tys A b L sx cells slots Q r0 (pc', lo, (2, 0, 0, n) :: sk, en, kn, sb)) : ai_G TY WR w0 ad M p l e R s m args below meth c D tys A b L sx cells slots Q r0 (pc, lo, sk, en, kn, sb) := by
  intro r lv skc ws H locs ls hx g hP hD hS hl
  obtain ⟨g1, g2, g3, g4, g5, g6, g7, g8⟩ := g
  exact row H locs ls skc (k r lv _ ws H locs ls hx ⟨g1, g2, g3, ⟨Or.inr (Or.inr (Or.inl ⟨rfl, 0, v, ai_z_ok g1 hz, rfl, by show v.toInt = 0 + n; omega⟩)), g4⟩, g5, g6, g7, g8⟩ hP hD hS hl)
/-- a local's value comes on the stack -/
theorem ai_Jld {i : Nat} (hg : ai_get lo i = some v)
    (row : ∀ (H : Heap) (locs : List Loc) (ls : Array Slot) (rest : List Value) (w : Value) (r : List Int), ls[i]? = some (.val w) → ai_dv ad b r v w → W p l e R s m args below meth c H locs cells slots Q (F0 m pc' ls (w :: rest)) → W p l e R s m args below meth c H locs cells slots Q (F0 m pc ls rest))
    (k : ai_G TY WR w0 ad M p l e R s m args below meth c D tys A b L sx cells slots Q r0 (pc', lo, v :: sk, en, kn, sb)) : ai_G TY WR w0 ad M p l e R s m args below meth c D tys A b L sx cells slots Q r0 (pc, lo, sk, en, kn, sb) := by
  intro r lv skc ws H locs ls hx g hP hD hS hl
  obtain ⟨g1, g2, g3, g4, g5, g6, g7, g8⟩ := g
  obtain ⟨n, w, h1, h2⟩ := ai_get_ok g3 hg
  exact row H locs ls skc w r (lv_at hl n h1) h2 (k r lv _ ws H locs ls hx ⟨g1, g2, g3, ⟨h2, g4⟩, g5, g6, g7, g8⟩ hP hD hS hl)
/-- .. and goes into a local -/
theorem ai_Jst1 {i : Nat} (row : ∀ (H : Heap) (locs : List Loc) (ls : Array Slot) (lv : List (Nat × Value)) (rest : List Value) (w : Value) (r : List Int), lv_has ls M.2.2.1 lv → ai_dv ad b r v w →
      (∀ ls' : Array Slot, lv_has ls' M.2.2.1 ((i, w) :: lv.filter (fun q => !(q.1 == i) && !(q.1 + 1 == i && q.2.category == 2))) → W p l e R s m args below meth c H locs cells slots Q (F0 m pc' ls' rest)) → W p l e R s m args below meth c H locs cells slots Q (F0 m pc ls (w :: rest)))
    (k : ai_G TY WR w0 ad M p l e R s m args below meth c D tys A b L sx cells slots Q r0 (pc', ai_st1 lo i v, sk, en, kn, sb)) : ai_G TY WR w0 ad M p l e R s m args below meth c D tys A b L sx cells slots Q r0 (pc, lo, v :: sk, en, kn, sb) := by
  intro r lv skc ws H locs ls hx g hP hD hS hl
  obtain ⟨g1, g2, g3, g4, g5, g6, g7, g8⟩ := g
  obtain ⟨w, s1, rfl, dw, k5⟩ := g4.cons
  exact row H locs ls lv s1 w r hl dw (fun ls' hl' => k r _ s1 ws H locs ls' hx ⟨g1, g2, ai_st1_ok g3 dw, k5, g5, g6, g7, g8⟩ hP hD hS hl')
theorem ai_Jst2 {i : Nat} (row : ∀ (H : Heap) (locs : List Loc) (ls : Array Slot) (lv : List (Nat × Value)) (rest : List Value) (w : Value) (r : List Int), lv_has ls M.2.2.1 lv → ai_dv ad b r v w →
      (∀ ls' : Array Slot, lv_has ls' M.2.2.1 ((i, w) :: lv.filter (fun q => !(q.1 == i) && (!(q.1 == i + 1) && !(q.1 + 1 == i && q.2.category == 2)))) → W p l e R s m args below meth c H locs cells slots Q (F0 m pc' ls' rest)) → W p l e R s m args below meth c H locs cells slots Q (F0 m pc ls (w :: rest)))
    (k : ai_G TY WR w0 ad M p l e R s m args below meth c D tys A b L sx cells slots Q r0 (pc', ai_st2 lo i v, sk, en, kn, sb)) : ai_G TY WR w0 ad M p l e R s m args below meth c D tys A b L sx cells slots Q r0 (pc, lo, v :: sk, en, kn, sb) := by
  intro r lv skc ws H locs ls hx g hP hD hS hl
  obtain ⟨g1, g2, g3, g4, g5, g6, g7, g8⟩ := g
  obtain ⟨w, s1, rfl, dw, k5⟩ := g4.cons
  exact row H locs ls lv s1 w r hl dw (fun ls' hl' => k r _ s1 ws H locs ls' hx ⟨g1, g2, ai_st2_ok g3 dw, k5, g5, g6, g7, g8⟩ hP hD hS hl')
theorem ai_Jinc (C : ai_cx M d p R s m args c D tys A b L sx cells slots) {i : Nat} {n : Int} {q : ai_q} (hg : ai_get lo i = some v) (hz : ai_z en = true) (hn : 1 < en.length) (hr : ai_ir n n = true) (hi : i < M.2.2.1) (hq : ai_add en sb v (1, 0, 0, n) = some q) (hd : decode M.2.1 pc = .ok (.iinc i n, 3))
    (k : ai_G TY WR w0 ad M p l e R s m args below meth c D tys A b L sx cells slots Q r0 (pc + 3, ai_st1 lo i q.2.2, sk, q.1, kn, q.2.1)) : ai_G TY WR w0 ad M p l e R s m args below meth c D tys A b L sx cells slots Q r0 (pc, lo, sk, en, kn, sb) := by
  intro r lv skc ws H locs ls hx g hP hD hS hl
  obtain ⟨g1, g2, g3, g4, g5, g6, g7, g8⟩ := g
  obtain ⟨a, w, h1, h2⟩ := ai_get_ok g3 hg
  have hc : ai_dv ad b r (1, 0, 0, n) (.int (Int32.ofInt n)) := Or.inr (Or.inl ⟨rfl, 0, _, ai_z_ok g1 hz, rfl, by
    have := ai_irs hr
    show (Int32.ofInt n).toInt = 0 + n
    have hsz : (Int32.size : Int) = 4294967296 := rfl
    rw [Int32.toInt_ofInt, Int.bmod_eq_of_le] <;> omega⟩)
  obtain ⟨i', j', rfl, hj, -, r', e1, e2, e3, e4⟩ := ai_add_ok w0 ad b r en sb v _ w _ q g1 g2 h2 hc hq
  cases hj
  exact lv_iinc C.1 C.2.1 hd hl h1 rfl hi rfl (fun ls' hl' => k r' _ skc ws H locs ls' (hx.tr e1) ⟨e2, e3, ai_st1_ok (g3.mono e1) e4, g4.mono e1, g5, g6.mono e1, g7, ai_sc1 e1 (by rw [g1.1]; exact hn) g8⟩ hP hD hS hl')
/-- an int is known to be one, no more -/
theorem ai_Ju {f : Int32 → Int32} {w : Int × Int} (hn : 1 < en.length) (hq : ai_i en x = some w)
    (row : ∀ (H : Heap) (locs : List Loc) (ls : Array Slot) (rest : List Value) (i : Int32), W p l e R s m args below meth c H locs cells slots Q (F0 m pc' ls (.int (f i) :: rest)) → W p l e R s m args below meth c H locs cells slots Q (F0 m pc ls (.int i :: rest)))
    (k : ai_G TY WR w0 ad M p l e R s m args below meth c D tys A b L sx cells slots Q r0 (pc', lo, (1, en.length, 0, 0) :: sk, ai_nu en (-2147483648) 2147483647, kn, sb)) : ai_G TY WR w0 ad M p l e R s m args below meth c D tys A b L sx cells slots Q r0 (pc, lo, x :: sk, en, kn, sb) := by
  intro r lv skc ws H locs ls hx g hP hD hS hl
  obtain ⟨g1, g2, g3, g4, g5, g6, g7, g8⟩ := g
  obtain ⟨vx, s2, rfl, dx, k5⟩ := g4.cons
  obtain ⟨-, z, i, -, rfl, -⟩ := ai_i_ok g1 dx hq
  exact row H locs ls s2 i (k (r ++ [(f i).toInt]) lv _ ws H locs ls (hx.tr ai_x.push) ⟨g1.nu (ai_irg _).1 (ai_irg _).2, g2.mono ai_x.push, g3.mono ai_x.push, ⟨Or.inr (Or.inl ⟨rfl, _, _, ai_last g1.1, rfl, by show (f i).toInt = (f i).toInt + 0; omega⟩), k5.mono ai_x.push⟩, g5, g6.mono ai_x.push, g7, ai_sc1 ai_x.push (by rw [g1.1]; exact hn) g8⟩ hP hD hS hl)
/-- an int made long -/
theorem ai_Ji2l (C : ai_cx M d p R s m args c D tys A b L sx cells slots) (hx1 : x.1 = 1) (hd : decode M.2.1 pc = .ok (.i2l, 1)) (k : ai_G TY WR w0 ad M p l e R s m args below meth c D tys A b L sx cells slots Q r0 (pc + 1, lo, (2, x.2.1, 0, x.2.2.2) :: sk, en, kn, sb)) : ai_G TY WR w0 ad M p l e R s m args below meth c D tys A b L sx cells slots Q r0 (pc, lo, x :: sk, en, kn, sb) := by
  intro r lv skc ws H locs ls hx g hP hD hS hl
  obtain ⟨g1, g2, g3, g4, g5, g6, g7, g8⟩ := g
  obtain ⟨vx, s2, rfl, dx, k5⟩ := g4.cons
  rcases dx with ⟨q, -⟩ | ⟨-, z, i, h1, rfl, h3⟩ | ⟨q, -⟩ | ⟨q, -⟩ | ⟨q, -⟩
  · omega
  · exact lv_i2l C.1 C.2.1 hd rfl (k r lv _ ws H locs ls hx ⟨g1, g2, g3, ⟨Or.inr (Or.inr (Or.inl ⟨rfl, z, _, h1, rfl, by rw [Int32.toInt_toInt64]; exact h3⟩)), k5⟩, g5, g6, g7, g8⟩ hP hD hS hl)
  all_goals omega
/-- two longs compared -/
theorem ai_cmpL (i j : Int64) : (lg_cmp i j < 0 ↔ i.toInt < j.toInt) ∧ (lg_cmp i j = 0 ↔ i.toInt = j.toInt) := by
  unfold lg_cmp
  by_cases h1 : j < i
  · rw [if_pos h1]
    rw [Int64.lt_iff_toInt_lt] at h1
    refine ⟨⟨fun h => absurd h (by decide), fun h => by omega⟩, ⟨fun h => absurd h (by decide), fun h => by omega⟩⟩
  · rw [if_neg h1]
    rw [Int64.lt_iff_toInt_lt] at h1
    by_cases h2 : i = j
    · subst h2
      simp
    · have h3 : i.toInt ≠ j.toInt := fun q => h2 (Int64.toInt_inj.mp q)
      rw [if_neg h2]
      refine ⟨⟨fun _ => by omega, fun _ => by decide⟩, ⟨fun h => absurd h (by decide), fun h => absurd h h3⟩⟩
theorem ai_Jlcmp (C : ai_cx M d p R s m args c D tys A b L sx cells slots) (hx1 : x.1 = 2) (hy1 : y.1 = 2) (hd : decode M.2.1 pc = .ok (.lcmp, 1)) (k : ai_G TY WR w0 ad M p l e R s m args below meth c D tys A b L sx cells slots Q r0 (pc + 1, lo, (3, x.2.1, y.2.1, y.2.2.2 - x.2.2.2) :: sk, en, kn, sb)) : ai_G TY WR w0 ad M p l e R s m args below meth c D tys A b L sx cells slots Q r0 (pc, lo, y :: x :: sk, en, kn, sb) := by
  intro r lv skc ws H locs ls hx g hP hD hS hl
  obtain ⟨g1, g2, g3, g4, g5, g6, g7, g8⟩ := g
  obtain ⟨vy, s1, rfl, dy, k4⟩ := g4.cons
  obtain ⟨vx, s2, rfl, dx, k5⟩ := k4.cons
  rcases dx with ⟨q, -⟩ | ⟨q, -⟩ | ⟨-, z, i, h1, rfl, h3⟩ | ⟨q, -⟩ | ⟨q, -⟩
  · omega
  · omega
  · rcases dy with ⟨q, -⟩ | ⟨q, -⟩ | ⟨-, w, j, k1, rfl, k3⟩ | ⟨q, -⟩ | ⟨q, -⟩
    · omega
    · omega
    · obtain ⟨c1, c2⟩ := ai_cmpL i j
      refine W.lcmp C.1 C.2.1 hd (k r lv _ ws H locs ls hx ⟨g1, g2, g3, ⟨Or.inr (Or.inr (Or.inr (Or.inl ⟨rfl, z, w, _, h1, k1, rfl, c1.trans ?_, c2.trans ?_⟩))), k5⟩, g5, g6, g7, g8⟩ hP hD hS hl)
      · show _ ↔ z < w + (y.2.2.2 - x.2.2.2)
        omega
      · show _ ↔ z = w + (y.2.2.2 - x.2.2.2)
        omega
    all_goals omega
  all_goals omega
theorem ai_Jdup (C : ai_cx M d p R s m args c D tys A b L sx cells slots) (hx1 : ¬ x.1 = 2) (hd : decode M.2.1 pc = .ok (.dup, 1)) (k : ai_G TY WR w0 ad M p l e R s m args below meth c D tys A b L sx cells slots Q r0 (pc + 1, lo, x :: x :: sk, en, kn, sb)) : ai_G TY WR w0 ad M p l e R s m args below meth c D tys A b L sx cells slots Q r0 (pc, lo, x :: sk, en, kn, sb) := by
  intro r lv skc ws H locs ls hx g hP hD hS hl
  obtain ⟨g1, g2, g3, g4, g5, g6, g7, g8⟩ := g
  obtain ⟨vx, s2, rfl, dx, k5⟩ := g4.cons
  exact lv_dup C.1 C.2.1 hd (by rw [dx.cat, if_neg hx1]) (k r lv _ ws H locs ls hx ⟨g1, g2, g3, ⟨dx, dx, k5⟩, g5, g6, g7, g8⟩ hP hD hS hl)
theorem ai_Jdup2 (C : ai_cx M d p R s m args c D tys A b L sx cells slots) (hx1 : ¬ x.1 = 2) (hy1 : ¬ y.1 = 2) (hd : decode M.2.1 pc = .ok (.dup2, 1)) (k : ai_G TY WR w0 ad M p l e R s m args below meth c D tys A b L sx cells slots Q r0 (pc + 1, lo, y :: x :: y :: x :: sk, en, kn, sb)) : ai_G TY WR w0 ad M p l e R s m args below meth c D tys A b L sx cells slots Q r0 (pc, lo, y :: x :: sk, en, kn, sb) := by
  intro r lv skc ws H locs ls hx g hP hD hS hl
  obtain ⟨g1, g2, g3, g4, g5, g6, g7, g8⟩ := g
  obtain ⟨vy, s1, rfl, dy, k4⟩ := g4.cons
  obtain ⟨vx, s2, rfl, dx, k5⟩ := k4.cons
  exact lv_dup2_11 C.1 C.2.1 hd (by rw [dy.cat, if_neg hy1]) (by rw [dx.cat, if_neg hx1]) (k r lv _ ws H locs ls hx ⟨g1, g2, g3, ⟨dy, dx, dy, dx, k5⟩, g5, g6, g7, g8⟩ hP hD hS hl)
theorem ai_Jpop (C : ai_cx M d p R s m args c D tys A b L sx cells slots) (hx1 : ¬ x.1 = 2) (hd : decode M.2.1 pc = .ok (.pop, 1)) (k : ai_G TY WR w0 ad M p l e R s m args below meth c D tys A b L sx cells slots Q r0 (pc + 1, lo, sk, en, kn, sb)) : ai_G TY WR w0 ad M p l e R s m args below meth c D tys A b L sx cells slots Q r0 (pc, lo, x :: sk, en, kn, sb) := by
  intro r lv skc ws H locs ls hx g hP hD hS hl
  obtain ⟨g1, g2, g3, g4, g5, g6, g7, g8⟩ := g
  obtain ⟨vx, s2, rfl, dx, k5⟩ := g4.cons
  exact lv_pop C.1 C.2.1 hd (by rw [dx.cat, if_neg hx1]) (k r lv _ ws H locs ls hx ⟨g1, g2, g3, k5, g5, g6, g7, g8⟩ hP hD hS hl)
theorem ai_Jpop2 (C : ai_cx M d p R s m args c D tys A b L sx cells slots) (hx1 : x.1 = 2) (hd : decode M.2.1 pc = .ok (.pop2, 1)) (k : ai_G TY WR w0 ad M p l e R s m args below meth c D tys A b L sx cells slots Q r0 (pc + 1, lo, sk, en, kn, sb)) : ai_G TY WR w0 ad M p l e R s m args below meth c D tys A b L sx cells slots Q r0 (pc, lo, x :: sk, en, kn, sb) := by
  intro r lv skc ws H locs ls hx g hP hD hS hl
  obtain ⟨g1, g2, g3, g4, g5, g6, g7, g8⟩ := g
  obtain ⟨vx, s2, rfl, dx, k5⟩ := g4.cons
  exact lv_pop2_2 C.1 C.2.1 hd (by rw [dx.cat, if_pos hx1]) (k r lv _ ws H locs ls hx ⟨g1, g2, g3, k5, g5, g6, g7, g8⟩ hP hD hS hl)
end AIJ
end
section
/-! fields, arrays -/
def ai_flok (own : String) (ci i idx : Nat) : Prop := ∃ (C : String) (T : u_T) (N : Nat), vwCl[ci]? = some (C, T, N) ∧ i < N ∧ Cond.fieldLink own idx (T i).1 (T i).2.1 (T i).2.2.1 ∈ ai_GT ∧ ∀ w ∈ u_ws C T N, w ∈ ai_GT
/-- .. and a field that may be written, of ints or of longs -/
def ai_fpok (own : String) (ci i idx : Nat) (kd : Nat) : Prop := ∃ (C : String) (T : u_T) (N : Nat) (ty0 : Nat → FieldType), vwCl[ci]? = some (C, T, N) ∧ i < N ∧ Cond.fieldLink own idx (T i).1 (T i).2.1 (T i).2.2.1 ∈ ai_GT ∧ (∀ w ∈ u_ws C T N, w ∈ ai_GT) ∧
  (∀ k, k < N → parseFieldDescriptor (T k).2.2.1 = some (ty0 k)) ∧ (∀ a, a < N → ∀ b, b < N → a ≠ b → (T a).2.1 ≠ (T b).2.1) ∧ (T i).2.2.2 = false ∧ parseFieldDescriptor (T i).2.2.1 = some (if kd = 1 then .int else .long)
section AIM
variable {TY : List ai_c} {WR : List (Nat × Nat × Nat)} {w0 : va_W} {ad : List Nat} {M : ai_m} {d : Nat} {p : Program} {l : Launch} {e : Env} {R : Room} {s : State} {m : MethodId} {args : Array Value} {below : List Frame} {meth : Method} {c : Code} {D : va_G} {tys : ai_ty} {A : Nat → Prop} {b L : Nat} {sx : Nat → Int32} {cells slots : Nat} {Q : State → Prop} {r0 : List Int} {pc pc' : Nat} {lo : List (Nat × ai_v)} {sk : List ai_v} {en en' : List ai_e} {kn kn' : List ai_k} {sb sb' : List ai_b} {x y v : ai_v}
theorem ai_ref0 {r : List Int} {w : Value} {cA : Nat} (h : ai_dv ad b r x w) (h0 : x.1 = 0) (ha : ad[x.2.1]? = some cA) : w = .ref cA := by
  rcases h with ⟨-, q, h1, rfl⟩ | ⟨q, -⟩ | ⟨q, -⟩ | ⟨q, -⟩ | ⟨q, -⟩
  · rw [ha] at h1
    cases h1
    rfl
  all_goals omega
theorem ai_Jget (C : ai_cx M d p R s m args c D tys A b L sx cells slots) {ci i idx : Nat} {q : List ai_e × List ai_k × ai_v} (hn : 1 < en.length) (h0 : x.1 = 0) (hr : ai_rd TY en kn ci x.2.1 i = some q) (hf : ai_flok M.1.cls ci i idx) (hd : decode M.2.1 pc = .ok (.getfield idx, 3))
    (k : ai_G TY WR w0 ad M p l e R s m args below meth c D tys A b L sx cells slots Q r0 (pc + 3, lo, q.2.2 :: sk, q.1, q.2.1, sb)) : ai_G TY WR w0 ad M p l e R s m args below meth c D tys A b L sx cells slots Q r0 (pc, lo, x :: sk, en, kn, sb) := by
  intro r lv skc ws H locs ls hx g hP hD hS hl
  obtain ⟨g1, g2, g3, g4, g5, g6, g7, g8⟩ := g
  obtain ⟨vx, s2, rfl, dx, k5⟩ := g4.cons
  obtain ⟨a, fs, w, w1, w2, w3, r', e1, e2, e3, e4⟩ := ai_rd_ok g1 g5 g6 hr
  cases ai_ref0 dx h0 w2
  obtain ⟨C1, T, N, f1, f2, f3, f4⟩ := hf
  exact va_get C.1 C.2.1 C.2.2.2.2.1 f4 C.2.2.2.1 C.2.2.2.2.2.2.1 hP x.2.1 w1 f1 i f2 (C.2.2.2.2.1 _ f3) (fun _ h => h) w3 hd (k r' lv _ ws H locs ls (hx.tr e1) ⟨e2, g2.mono e1, g3.mono e1, ⟨e4, k5.mono e1⟩, g5, e3, g7, ai_sc1 e1 (by rw [g1.1]; exact hn) g8⟩ hP hD hS hl)
theorem ai_Jput (C : ai_cx M d p R s m args c D tys A b L sx cells slots) {ci i idx : Nat} (h0 : x.1 = 0) (hr : ai_wf TY WR en kn ci x.2.1 i v = some kn') (hf : ∀ kd, ((TY[x.2.1]?).bind fun t => t.2.2[i]?).map (fun f => f.1) = some kd → ai_fpok M.1.cls ci i idx kd) (hd : decode M.2.1 pc = .ok (.putfield idx, 3))
    (k : ai_G TY WR w0 ad M p l e R s m args below meth c D tys A b L sx cells slots Q r0 (pc + 3, lo, sk, en, kn', sb)) : ai_G TY WR w0 ad M p l e R s m args below meth c D tys A b L sx cells slots Q r0 (pc, lo, v :: x :: sk, en, kn, sb) := by
  intro r lv skc ws H locs ls hx g hP hD hS hl
  obtain ⟨g1, g2, g3, g4, g5, g6, g7, g8⟩ := g
  obtain ⟨vv, s1, rfl, dv, k4⟩ := g4.cons
  obtain ⟨vx, s2, rfl, dx, k5⟩ := k4.cons
  obtain ⟨a, fs, w1, w2, w3, w4, w5, w6, w7, w8⟩ := ai_wf_ok g1 g5 g6 g7 dv hr
  cases ai_ref0 dx h0 w2
  obtain ⟨C1, T, N, ty0, f1, f2, f3, f4, f5, f6, f7, f8⟩ := hf _ w8
  rcases w4 with ⟨j, rfl⟩ | ⟨j, rfl⟩
  · exact va_put C.1 C.2.1 C.2.2.2.2.1 f4 ty0 f5 f6 C.2.2.2.1 C.2.2.2.2.2.2.1 hP hD hS x.2.1 w1 f1 i f2 (C.2.2.2.2.1 _ f3) (fun _ h => h) f7 f8 rfl rfl w3 hd (fun H1 locs1 hP1 hD1 hS1 => k r lv _ _ H1 locs1 ls hx ⟨g1, g2, g3, k5, w5, w6, w7, g8⟩ hP1 hD1 hS1 hl)
  · exact va_put C.1 C.2.1 C.2.2.2.2.1 f4 ty0 f5 f6 C.2.2.2.1 C.2.2.2.2.2.2.1 hP hD hS x.2.1 w1 f1 i f2 (C.2.2.2.2.1 _ f3) (fun _ h => h) f7 f8 rfl rfl w3 hd (fun H1 locs1 hP1 hD1 hS1 => k r lv _ _ H1 locs1 ls hx ⟨g1, g2, g3, k5, w5, w6, w7, g8⟩ hP1 hD1 hS1 hl)
/-- what is read of the tapes is told of the world w0, where they are not written -/
def ai_gc (WR : List (Nat × Nat × Nat)) (c : Nat) (y v : ai_v) : Bool := (Nat.beq c 27 || Nat.beq c 52) && (!(WR.any fun q => Nat.beq q.1 c || Nat.beq q.1 1000) && (Nat.beq y.1 1 && (Nat.beq v.1 1 && decide (v.2.2.2 = 0))))
def ai_gt (WR : List (Nat × Nat × Nat)) (c : Nat) (y v : ai_v) (sb : List ai_b) : List ai_b := if ai_gc WR c y v = true then (1000 + c, y.2.1, y.2.1, v.2.1, y.2.2.2) :: sb else sb
theorem ai_dv1 {ad : List Nat} {b : Nat} {r : List Int} {v : ai_v} {i : Int32} (h : ai_dv ad b r v (.int i)) (h1 : v.1 = 1) : ∃ z, r[v.2.1]? = some z ∧ i.toInt = z + v.2.2.2 := by
  rcases h with ⟨q, -⟩ | ⟨-, z, j, q1, q2, q3⟩ | ⟨q, -⟩ | ⟨q, -⟩ | ⟨q, -⟩
  · omega
  · cases q2
    exact ⟨z, q1, q3⟩
  all_goals omega
theorem ai_vp0 {i : Int32} {n : Nat} (h : vp_in i n) : 0 ≤ i.toInt := (vp_in_iff.mp h).1
theorem ai_vpn {i : Int32} {n : Nat} (h : vp_in i n) : i.toInt.toNat < n := by
  have := vp_in_iff.mp h
  omega
theorem ai_gt_ok {WR : List (Nat × Nat × Nat)} {w0 ws : va_W} {ad : List Nat} {b : Nat} {r : List Int} {sb : List ai_b} {c a n : Nat} {cA : ClassId} {f : Nat → Int32} {i : Int32} {y v : ai_v} (g7 : ai_fr WR w0 ws) (g2 : ai_sb w0 r sb) (hy : ai_dv ad b r y (.int i)) (hv : ai_dv ad b r v (.int (f i.toNatClampNeg))) (w1 : ws[c]? = some (a, .inl (cA, n, .inl f))) (w4 : vp_in i n) : ai_sb w0 r (ai_gt WR c y v sb) := by
  unfold ai_gt
  split
  · rename_i hc
    unfold ai_gc at hc
    rw [Bool.and_eq_true, Bool.and_eq_true, Bool.and_eq_true, Bool.and_eq_true, ai_beq, ai_beq, decide_eq_true_eq] at hc
    obtain ⟨-, c2, c3, c4, c5⟩ := hc
    obtain ⟨za, y1, y2⟩ := ai_dv1 hy c3
    obtain ⟨zr, v1, v2⟩ := ai_dv1 hv c4
    have hi0 : 0 ≤ i.toInt := ai_vp0 w4
    intro q hq
    rcases List.mem_cons.mp hq with rfl | hq
    · refine ⟨za, za, zr, y1, y1, v1, fun h => absurd (show 1000 + c = 0 from h) (by omega), fun h => absurd (show 1000 + c = 1 from h) (by omega), fun h => absurd (show 1000 + c = 2 from h) (by omega), fun h => absurd (show 1000 + c = 4 from h) (by omega), fun h => absurd (show 1000 + c = 5 from h) (by omega), fun _ => ⟨fun _ => ⟨za, zr, y1, v1, by show 0 ≤ za + y.2.2.2; omega, fun t ht => ?_⟩, fun h => absurd (show 1000 + c < 300 ∨ (500 ≤ 1000 + c ∧ 1000 + c < 1000) from h) (by omega), fun _ _ => ⟨fun _ h => absurd (show 1000 + c < 305 from h) (by omega), fun _ h => absurd (show 1000 + c < 318 from h) (by omega), fun _ h => absurd (show 1000 + c < 323 from h) (by omega), fun _ h => absurd (show 1000 + c < 500 from h) (by omega), fun h => absurd (show 1000 + c = 330 from h) (by omega)⟩, fun h => absurd (show 1000 + c = 350 from h) (by omega)⟩⟩
      have ht : fx_o w0 (1000 + c - 1000) (za + y.2.2.2).toNat = some t := ht
      rw [Nat.add_sub_cancel_left, ← y2] at ht
      obtain ⟨j, j1, j2⟩ := fx_o_sl ht
      have hwr : ai_wr WR c i.toInt.toNat i.toInt.toNat = false := by
        rw [Bool.not_eq_true'] at c2
        unfold ai_wr
        rw [List.any_eq_false]
        intro q hq hx
        have := List.any_eq_false.mp c2 q hq
        rw [Bool.or_eq_true, ai_beq, ai_beq] at this
        rw [Bool.and_eq_true, Bool.and_eq_true, Bool.or_eq_true, decide_eq_true_eq, decide_eq_true_eq] at hx
        exact this hx.1.1
      have k1 := g7 c _ _ hwr j1
      have k2 : ai_sl ws c i.toInt.toNat (.int (f i.toInt.toNat)) := ⟨a, _, w1, Or.inr ⟨cA, n, f, rfl, ai_vpn w4, rfl⟩⟩
      have k3 := k1.fun k2
      injection k3 with k3
      have v2 : (f i.toInt.toNat).toInt = zr + v.2.2.2 := v2
      rw [← k3] at v2
      omega
    · exact g2 q hq
  · exact g2
/-- an element of a row of ints (tg 1), of booleans (tg 2) -/
theorem ai_Jald (C : ai_cx M d p R s m args c D tys A b L sx cells slots) {tg : Nat} {q : List ai_e × List ai_k × ai_v} (htg : tg = 1 ∨ tg = 2) (hn : 1 < en.length) (h0 : x.1 = 0) (hr : ai_ra TY en kn tg x.2.1 y = some q) (hd : decode M.2.1 pc = .ok (if tg = 1 then .iaload else .baload, 1))
    (k : ai_G TY WR w0 ad M p l e R s m args below meth c D tys A b L sx cells slots Q r0 (pc + 1, lo, q.2.2 :: sk, q.1, q.2.1, ai_gt WR x.2.1 y q.2.2 sb)) : ai_G TY WR w0 ad M p l e R s m args below meth c D tys A b L sx cells slots Q r0 (pc, lo, y :: x :: sk, en, kn, sb) := by
  intro r lv skc ws H locs ls hx g hP hD hS hl
  obtain ⟨g1, g2, g3, g4, g5, g6, g7, g8⟩ := g
  obtain ⟨vy, s1, rfl, dy, k4⟩ := g4.cons
  obtain ⟨vx, s2, rfl, dx, k5⟩ := k4.cons
  obtain ⟨a, cA, n, f, i, rfl, w1, w2, ⟨t0, w3⟩, w4, r', e1, e2, e3, e4⟩ := ai_ra_ok htg g1 g5 g6 dy hr
  cases ai_ref0 dx h0 w2
  have kk := k r' lv (.int (f i.toNatClampNeg) :: s2) ws H locs ls (hx.tr e1) ⟨e2, ai_gt_ok g7 (g2.mono e1) (dy.mono e1) e4 w1 w4, g3.mono e1, ⟨e4, k5.mono e1⟩, g5, e3, g7, ai_sc1 e1 (by rw [g1.1]; exact hn) g8⟩ hP hD hS hl
  rcases htg with rfl | rfl
  · exact va_iald C.1 C.2.1 C.2.2.2.2.2.2.1 hP x.2.1 t0 w1 w3 w4 hd kk
  · exact va_zald C.1 C.2.1 C.2.2.2.2.2.2.1 hP x.2.1 t0 w1 w3 w4 hd kk
theorem ai_narZ {j : Int32} (h : 0 ≤ j.toInt ∧ j.toInt ≤ 1) : vp_nar .boolean j = j := by
  have : j = 0 ∨ j = 1 := by
    by_cases h0 : j.toInt = 0
    · exact Or.inl (Int32.toInt_inj.mp (by rw [h0]; rfl))
    · exact Or.inr (Int32.toInt_inj.mp (by show j.toInt = 1; omega))
  rcases this with rfl | rfl <;> decide
theorem ai_Jast (C : ai_cx M d p R s m args c D tys A b L sx cells slots) {tg : Nat} (htg : tg = 1 ∨ tg = 2) (h0 : x.1 = 0) (hr : ai_wa TY WR en kn tg x.2.1 y v = some kn') (hd : decode M.2.1 pc = .ok (if tg = 1 then .iastore else .bastore, 1))
    (k : ai_G TY WR w0 ad M p l e R s m args below meth c D tys A b L sx cells slots Q r0 (pc + 1, lo, sk, en, kn', sb)) : ai_G TY WR w0 ad M p l e R s m args below meth c D tys A b L sx cells slots Q r0 (pc, lo, v :: y :: x :: sk, en, kn, sb) := by
  intro r lv skc ws H locs ls hx g hP hD hS hl
  obtain ⟨g1, g2, g3, g4, g5, g6, g7, g8⟩ := g
  obtain ⟨vv, s0, rfl, dv, k3⟩ := g4.cons
  obtain ⟨vy, s1, rfl, dy, k4⟩ := k3.cons
  obtain ⟨vx, s2, rfl, dx, k5⟩ := k4.cons
  obtain ⟨a, cA, n, f, i, j, rfl, rfl, w1, w2, ⟨t0, w3⟩, w4, w5, w6, w7, w8⟩ := ai_wa_ok htg g1 g5 g6 g7 dy dv hr
  cases ai_ref0 dx h0 w2
  rcases htg with rfl | rfl
  · exact va_iast C.1 C.2.1 C.2.2.2.2.2.2.1 hP hD hS x.2.1 t0 w1 w3 w4 hd (fun H1 locs1 hP1 hD1 hS1 => k r lv _ _ H1 locs1 ls hx ⟨g1, g2, g3, k5, w6, w7, w8, g8⟩ hP1 hD1 hS1 hl)
  · have ez : vp_nar .boolean j = j := ai_narZ (w5.elim (fun q => by omega) id)
    refine va_zast C.1 C.2.1 C.2.2.2.2.2.2.1 hP hD hS x.2.1 t0 w1 w3 w4 hd (fun H1 locs1 hP1 hD1 hS1 => ?_)
    rw [ez] at hP1 hD1
    exact k r lv _ _ H1 locs1 ls hx ⟨g1, g2, g3, k5, w6, w7, w8, g8⟩ hP1 hD1 hS1 hl
/-- a row of longs -/
def ai_il (TY : List ai_c) (en : List ai_e) (c : Nat) (iv : ai_v) : Bool := ((TY[c]?).bind fun t => (ai_i en iv).map fun p => decide (t.1 = 3) && decide (0 ≤ p.1) && decide (p.2 < (t.2.1 : Int))) == some true
theorem ai_il_ok {r : List Int} {ws : va_W} {cc : Nat} {iv : ai_v} {vi : Value} (h : ai_ok r en) (hw : ai_wd TY ad tys ws) (hv : ai_dv ad b r iv vi) (hq : ai_il TY en cc iv = true) :
    ∃ (a : Nat) (cA : ClassId) (n : Nat) (f : Nat → Int64) (i : Int32) (t : ai_c), vi = .int i ∧ ws[cc]? = some (a, .inl (cA, n, .inr (.inl f))) ∧ ad[cc]? = some a ∧ ai_hasT tys cA .long ∧ vp_in i n ∧ TY[cc]? = some t ∧ t.1 = 3 ∧ t.2.1 = n := by
  unfold ai_il at hq
  rw [beq_iff_eq] at hq
  obtain ⟨t, ht, hq⟩ := Option.bind_eq_some_iff.mp hq
  obtain ⟨p, hp, hq⟩ := Option.map_eq_some_iff.mp hq
  simp only [Bool.and_eq_true, decide_eq_true_eq] at hq
  obtain ⟨-, z, i, -, rfl, -, i1, i2⟩ := ai_i_ok h hv hp
  obtain ⟨a, e, w1, w2, w3⟩ := hw.get ht
  rcases w3 with ⟨q1, -⟩ | ⟨q1, -⟩ | ⟨t0, cA, f, rfl, g1⟩ | ⟨q1, -⟩
  · omega
  · omega
  · exact ⟨a, cA, t.2.1, f, i, t, rfl, w1, w2, g1, (ai_idx i1 i2 hq.1.2 hq.2).1, ht, t0, rfl⟩
  · omega
theorem ai_Jlald (C : ai_cx M d p R s m args c D tys A b L sx cells slots) (hn : 1 < en.length) (h0 : x.1 = 0) (hr : ai_il TY en x.2.1 y = true) (hd : decode M.2.1 pc = .ok (.laload, 1))
    (k : ai_G TY WR w0 ad M p l e R s m args below meth c D tys A b L sx cells slots Q r0 (pc + 1, lo, (2, en.length, 0, 0) :: sk, ai_nu en (-9223372036854775808) 9223372036854775807, kn, sb)) : ai_G TY WR w0 ad M p l e R s m args below meth c D tys A b L sx cells slots Q r0 (pc, lo, y :: x :: sk, en, kn, sb) := by
  intro r lv skc ws H locs ls hx g hP hD hS hl
  obtain ⟨g1, g2, g3, g4, g5, g6, g7, g8⟩ := g
  obtain ⟨vy, s1, rfl, dy, k4⟩ := g4.cons
  obtain ⟨vx, s2, rfl, dx, k5⟩ := k4.cons
  obtain ⟨a, cA, n, f, i, t, rfl, w1, w2, ⟨t0, w3⟩, w4, -⟩ := ai_il_ok g1 g5 dy hr
  cases ai_ref0 dx h0 w2
  exact va_lald C.1 C.2.1 C.2.2.2.2.2.2.1 hP x.2.1 t0 w1 w3 w4 hd (k (r ++ [(f i.toNatClampNeg).toInt]) lv _ ws H locs ls (hx.tr ai_x.push) ⟨g1.nu (ai_lrg _).1 (ai_lrg _).2, g2.mono ai_x.push, g3.mono ai_x.push, ⟨Or.inr (Or.inr (Or.inl ⟨rfl, _, _, ai_last g1.1, rfl, by show (f i.toNatClampNeg).toInt = (f i.toNatClampNeg).toInt + 0; omega⟩)), k5.mono ai_x.push⟩, g5, g6.mono ai_x.push, g7, ai_sc1 ai_x.push (by rw [g1.1]; exact hn) g8⟩ hP hD hS hl)
theorem ai_Jlast (C : ai_cx M d p R s m args c D tys A b L sx cells slots) (h0 : x.1 = 0) (hv : v.1 = 2) (hr : ai_il TY en x.2.1 y = true) (hd : decode M.2.1 pc = .ok (.lastore, 1))
    (k : ai_G TY WR w0 ad M p l e R s m args below meth c D tys A b L sx cells slots Q r0 (pc + 1, lo, sk, en, kn, sb)) : ai_G TY WR w0 ad M p l e R s m args below meth c D tys A b L sx cells slots Q r0 (pc, lo, v :: y :: x :: sk, en, kn, sb) := by
  intro r lv skc ws H locs ls hx g hP hD hS hl
  obtain ⟨g1, g2, g3, g4, g5, g6, g7, g8⟩ := g
  obtain ⟨vv, s0, rfl, dv, k3⟩ := g4.cons
  obtain ⟨vy, s1, rfl, dy, k4⟩ := k3.cons
  obtain ⟨vx, s2, rfl, dx, k5⟩ := k4.cons
  obtain ⟨a, cA, n, f, i, t, rfl, w1, w2, ⟨t0, w3⟩, w4, w5, w6, w7⟩ := ai_il_ok g1 g5 dy hr
  cases ai_ref0 dx h0 w2
  rcases dv with ⟨q, -⟩ | ⟨q, -⟩ | ⟨-, z, j, -, rfl, -⟩ | ⟨q, -⟩ | ⟨q, -⟩
  · omega
  · omega
  · refine va_last C.1 C.2.1 C.2.2.2.2.2.2.1 hP hD hS x.2.1 t0 w1 w3 w4 hd (fun H1 locs1 hP1 hD1 hS1 => k r lv _ _ H1 locs1 ls hx ⟨g1, g2, g3, k5, ?_, ?_, ?_, g8⟩ hP1 hD1 hS1 hl)
    · exact g5.set w5 w1 (Or.inr (Or.inr (Or.inl ⟨w6, cA, _, by rw [w7], ⟨t0, w3⟩⟩)))
    · intro q hq
      obtain ⟨u, u1, u2⟩ := g6 q hq
      exact ⟨u, u1.setL w1, u2⟩
    · exact fun c' i' u hu h0 => (g7 c' i' u hu h0).setL w1
  all_goals omega
/-- the length of a row -/
theorem ai_Jlen (C : ai_cx M d p R s m args c D tys A b L sx cells slots) {t : ai_c} (hz : ai_z en = true) (h0 : x.1 = 0) (ht : TY[x.2.1]? = some t) (h1 : t.1 = 1 ∨ t.1 = 2 ∨ t.1 = 3) (hb : t.2.1 < 2147483648) (hd : decode M.2.1 pc = .ok (.arraylength, 1))
    (k : ai_G TY WR w0 ad M p l e R s m args below meth c D tys A b L sx cells slots Q r0 (pc + 1, lo, (1, 0, 0, (t.2.1 : Int)) :: sk, en, kn, sb)) : ai_G TY WR w0 ad M p l e R s m args below meth c D tys A b L sx cells slots Q r0 (pc, lo, x :: sk, en, kn, sb) := by
  intro r lv skc ws H locs ls hx g hP hD hS hl
  obtain ⟨g1, g2, g3, g4, g5, g6, g7, g8⟩ := g
  obtain ⟨vx, s2, rfl, dx, k5⟩ := g4.cons
  obtain ⟨a, e1, w1, w2, w3⟩ := g5.get ht
  cases ai_ref0 dx h0 w2
  have hk := k r lv (.int (Int32.ofNat t.2.1) :: s2) ws H locs ls hx ⟨g1, g2, g3, ⟨Or.inr (Or.inl ⟨rfl, 0, _, ai_z_ok g1 hz, rfl, by show (Int32.ofNat t.2.1).toInt = 0 + (t.2.1 : Int); rw [show Int32.ofNat t.2.1 = nI t.2.1 from rfl, nI_toInt (by omega)]; omega⟩), k5⟩, g5, g6, g7, g8⟩ hP hD hS hl
  rcases w3 with ⟨q1, -⟩ | ⟨-, cA, f, rfl, ⟨t0, g9⟩, -⟩ | ⟨-, cA, f, rfl, ⟨t0, g9⟩⟩ | ⟨q1, -⟩
  · omega
  · exact va_alen C.1 C.2.1 C.2.2.2.2.2.2.1 hP x.2.1 t0 w1 g9 rfl hd hk
  · exact va_alen C.1 C.2.1 C.2.2.2.2.2.2.1 hP x.2.1 t0 w1 g9 rfl hd hk
  · omega
/-- a row of rows: one way for each index -/
def ai_aa (t : ai_c) (en : List ai_e) (iv : ai_v) (lo : Nat) (k : Nat) : List (List ai_e × ai_v) := (List.range (k + 1)).flatMap fun j => match ai_cl en iv.2.1 ((lo + j : Nat) - iv.2.2.2) ((lo + j : Nat) - iv.2.2.2), t.2.2[lo + j]? with
  | some en', some q => [(en', (0, q.2.1, 0, 0))]
  | _, _ => []
theorem ai_Jaald (C : ai_cx M d p R s m args c D tys A b L sx cells slots) {t : ai_c} {w : Int × Int} (h0 : x.1 = 0) (ht : TY[x.2.1]? = some t) (h1 : t.1 = 4) (hw : ai_i en y = some w) (hb : 0 ≤ w.1 ∧ w.2 < t.2.1 ∧ t.2.1 = t.2.2.length) (hd : decode M.2.1 pc = .ok (.aaload, 1))
    (k : ∀ q ∈ ai_aa t en y w.1.toNat (w.2.toNat - w.1.toNat), ai_G TY WR w0 ad M p l e R s m args below meth c D tys A b L sx cells slots Q r0 (pc + 1, lo, q.2 :: sk, q.1, kn, sb)) : ai_G TY WR w0 ad M p l e R s m args below meth c D tys A b L sx cells slots Q r0 (pc, lo, y :: x :: sk, en, kn, sb) := by
  intro r lv skc ws H locs ls hx g hP hD hS hl
  obtain ⟨g1, g2, g3, g4, g5, g6, g7, g8⟩ := g
  obtain ⟨vy, s1, rfl, dy, k4⟩ := g4.cons
  obtain ⟨vx, s2, rfl, dx, k5⟩ := k4.cons
  obtain ⟨a, e1, w1, w2, w3⟩ := g5.get ht
  cases ai_ref0 dx h0 w2
  obtain ⟨-, z, i, i1, rfl, i2, i3, i4⟩ := ai_i_ok g1 dy hw
  rcases w3 with ⟨q1, -⟩ | ⟨q1, -⟩ | ⟨q1, -⟩ | ⟨-, cA, f, rfl, ⟨t0, g9⟩, g10⟩
  · omega
  · omega
  · omega
  · obtain ⟨x1, x2, x3, x4⟩ := ai_idx i3 i4 hb.1 hb.2.1
    obtain ⟨q, hq⟩ : ∃ q, t.2.2[i.toNatClampNeg]? = some q := ⟨_, List.getElem?_eq_getElem (by omega)⟩
    obtain ⟨ra, r1, r2⟩ := g10 _ q hq
    have ei : (i.toNatClampNeg : Int) = i.toInt := by
      show ((i.toInt.toNat : Nat) : Int) = i.toInt
      omega
    obtain ⟨en1, c1, c2⟩ := ai_cl_ok (lo := (i.toNatClampNeg : Int) - y.2.2.2) (hi := (i.toNatClampNeg : Int) - y.2.2.2) g1 i1 (by omega) (by omega)
    have hm : (en1, ((0, q.2.1, 0, 0) : ai_v)) ∈ ai_aa t en y w.1.toNat (w.2.toNat - w.1.toNat) := by
      unfold ai_aa
      refine List.mem_flatMap.mpr ⟨i.toNatClampNeg - w.1.toNat, List.mem_range.mpr (by omega), ?_⟩
      rw [show w.1.toNat + (i.toNatClampNeg - w.1.toNat) = i.toNatClampNeg by omega, c1, hq]
      exact List.mem_singleton.mpr rfl
    refine W.aald (v := va_rf (f i.toNatClampNeg)) (ty := .array .int) C.1 C.2.1 (hP x.2.1 _ w1) ((C.2.2.2.2.2.2.1.2 t0 _ g9).1 t.2.1 (fun j => va_rf (f j))) rfl (fun q => by cases q) (by show ¬ (i < 0 ∨ (arrV _ _ _).slots.size ≤ _); rw [arrV_size]; exact x1) (by show (arrV _ _ _).slots[_]? = _; rw [arrV_read _ _ x4]) rfl rfl hd ?_
    rw [r2]
    exact k _ hm r lv _ ws H locs ls hx ⟨c2, g2, g3, ⟨Or.inl ⟨rfl, ra, r1, rfl⟩, k5⟩, g5, g6, g7, g8⟩ hP hD hS hl
/-- an int of the script -/
theorem ai_Jscr (C : ai_cx M d p R s m args c D tys A b L sx cells slots) (hsc : M.2.2.2.2.1 = true) (h0 : x.1 = 4) (hy : y.1 = 1 ∧ y.2.1 = 1 ∧ 0 ≤ y.2.2.2 ∧ y.2.2.2 ≤ 4) (hd : decode M.2.1 pc = .ok (.iaload, 1))
    (k : ai_G TY WR w0 ad M p l e R s m args below meth c D tys A b L sx cells slots Q r0 (pc + 1, lo, (1, 3 + y.2.2.2.toNat, 0, 0) :: sk, en, kn, sb)) : ai_G TY WR w0 ad M p l e R s m args below meth c D tys A b L sx cells slots Q r0 (pc, lo, y :: x :: sk, en, kn, sb) := by
  intro r lv skc ws H locs ls hx g hP hD hS hl
  obtain ⟨g1, g2, g3, g4, g5, g6, g7, g8⟩ := g
  obtain ⟨vy, s1, rfl, dy, k4⟩ := g4.cons
  obtain ⟨vx, s2, rfl, dx, k5⟩ := k4.cons
  obtain ⟨hX, hbl, hbA⟩ := C.2.2.2.2.2.2.2.2.2 hsc
  have hbx : vx = .ref b := by
    rcases dx with ⟨q, -⟩ | ⟨q, -⟩ | ⟨q, -⟩ | ⟨q, -⟩ | ⟨-, q⟩
    · omega
    · omega
    · omega
    · omega
    · exact q
  cases hbx
  rcases dy with ⟨q, -⟩ | ⟨-, z, i, i1, rfl, i2⟩ | ⟨q, -⟩ | ⟨q, -⟩ | ⟨q, -⟩
  · omega
  · rw [hy.2.1] at i1
    obtain ⟨hz, hnm⟩ := g8 hsc z i1
    have hi : i.toNatClampNeg = z.toNat + y.2.2.2.toNat := by
      show i.toInt.toNat = _
      omega
    refine va_sld C.1 C.2.1 hX hbl hbA hS (vp_in_iff.mpr ⟨by omega, by omega⟩) hd ?_
    rw [hi]
    exact k r lv _ ws H locs ls hx ⟨g1, g2, g3, ⟨Or.inr (Or.inl ⟨rfl, _, _, hnm y.2.2.2.toNat (by omega), rfl, by show (sx (z.toNat + y.2.2.2.toNat)).toInt = (sx (z.toNat + y.2.2.2.toNat)).toInt + 0; omega⟩), k5⟩, g5, g6, g7, g8⟩ hP hD hS hl
  all_goals omega
/-! branches -/
def ai_neg (op : Nat) : Nat := match op with
  | 0 => 1
  | 1 => 0
  | 2 => 3
  | 3 => 2
  | 4 => 5
  | _ => 4
def ai_c1 (en : List ai_e) (x : ai_v) : Option (Nat × Nat × Int) := if x.1 = 1 then (if ai_z en = true then some (x.2.1, 0, -x.2.2.2) else none) else if x.1 = 3 then some (x.2.1, x.2.2.1, x.2.2.2) else none
theorem ai_c1_ok {r : List Int} {q : Nat × Nat × Int} {w : Value} (h : ai_ok r en) (hv : ai_dv ad b r x w) (hq : ai_c1 en x = some q) : ∃ (i : Int32) (za zb : Int), w = .int i ∧ r[q.1]? = some za ∧ r[q.2.1]? = some zb ∧ (i.toInt < 0 ↔ za < zb + q.2.2) ∧ (i.toInt = 0 ↔ za = zb + q.2.2) := by
  unfold ai_c1 at hq
  split at hq
  · rename_i h1
    split at hq
    · rename_i hz
      cases hq
      rcases hv with ⟨q, -⟩ | ⟨-, z, i, i1, rfl, i2⟩ | ⟨q, -⟩ | ⟨q, -⟩ | ⟨q, -⟩
      · omega
      · refine ⟨i, z, 0, rfl, i1, ai_z_ok h hz, ?_, ?_⟩ <;> dsimp only <;> omega
      all_goals omega
    · cases hq
  · split at hq
    · rename_i h1 h3
      cases hq
      rcases hv with ⟨q, -⟩ | ⟨q, -⟩ | ⟨q, -⟩ | ⟨-, z, w2, i, i1, i2, rfl, i3, i4⟩ | ⟨q, -⟩
      · omega
      · omega
      · omega
      · refine ⟨i, z, w2, rfl, i1, i2, ?_, ?_⟩
        · rw [← i3, Int32.lt_iff_toInt_lt]
          rfl
        · rw [← i4, ← Int32.toInt_inj]
          rfl
      · omega
    · cases hq
/-- what was told of the same two names -/
def ai_cf (sb : List ai_b) (l : Bool) (a b : Nat) (c : Int) : Bool := sb.any fun k => Nat.beq k.2.1 a && (Nat.beq k.2.2.1 b && (if l = true then Nat.beq k.1 5 && decide (c ≤ k.2.2.2.2) else Nat.beq k.1 4 && decide (k.2.2.2.2 ≤ c)))
theorem ai_cf_ok {w0 : va_W} {r : List Int} {sb : List ai_b} {l : Bool} {a b : Nat} {c za zb : Int} (hs : ai_sb w0 r sb) (ha : r[a]? = some za) (hb : r[b]? = some zb) (h : if l = true then za < zb + c else zb + c ≤ za) : ai_cf sb l a b c = false := by
  rw [Bool.eq_false_iff]
  intro hc
  unfold ai_cf at hc
  obtain ⟨k, hk, hc⟩ := List.any_eq_true.mp hc
  rw [Bool.and_eq_true, Bool.and_eq_true, ai_beq, ai_beq] at hc
  obtain ⟨h1, h2, h3⟩ := hc
  obtain ⟨ya, yb, yr, e1, e2, -, -, -, -, e4, e5, -⟩ := hs k hk
  rw [h1, ha] at e1
  rw [h2, hb] at e2
  cases e1
  cases e2
  cases l with
  | true =>
    rw [if_pos rfl, Bool.and_eq_true, ai_beq, decide_eq_true_eq] at h3
    rw [if_pos rfl] at h
    have := e5 h3.1
    omega
  | false =>
    rw [if_neg (by decide), Bool.and_eq_true, ai_beq, decide_eq_true_eq] at h3
    rw [if_neg (by decide)] at h
    have := e4 h3.1
    omega
def ai_lf (op : Nat) (o : Int) : Option (Bool × Int) := match op with
  | 0 => none
  | 1 => none
  | 2 => some (true, o)
  | 3 => some (false, o)
  | 4 => some (false, o + 1)
  | _ => some (true, o + 1)
theorem ai_lf_ok {op : Nat} {o za zb c : Int} {l : Bool} (h : ai_lf op o = some (l, c)) (hr : ai_rel op za (zb + o)) : if l = true then za < zb + c else zb + c ≤ za := by
  rcases op with _ | _ | _ | _ | _ | op
  · cases h
  · cases h
  · cases h
    have hr : za < zb + o := hr
    rw [if_pos rfl]
    exact hr
  · cases h
    have hr : zb + o ≤ za := hr
    rw [if_neg (by decide)]
    exact hr
  · cases h
    have hr : zb + o < za := hr
    rw [if_neg (by decide)]
    omega
  · cases h
    have hr : za ≤ zb + o := hr
    rw [if_pos rfl]
    omega
def ai_nk (en : List ai_e) (a : Nat) : Bool := (en[a]?).any fun e => decide (e.1 < e.2.1)
def ai_rb (en : List ai_e) (sb : List ai_b) (op a b : Nat) (o : Int) : Option (List ai_e × List ai_b) := match ai_lf op o with
  | some (l, c) => if ai_cf sb l a b c = true then none else (ai_rf en op a b o).map fun en' => (en', if (ai_nk en a && ai_nk en b) = true then ((if l = true then 4 else 5), a, b, a, c) :: sb else sb)
  | none => (ai_rf en op a b o).map fun en' => (en', if (Nat.beq op 1 && ai_nk en a) = true then (140, a, b, a, o) :: sb else sb)
theorem ai_rb_ok {w0 : va_W} {r : List Int} {en : List ai_e} {sb : List ai_b} {op a b : Nat} {o za zb : Int} (h : ai_ok r en) (hs : ai_sb w0 r sb) (ha : r[a]? = some za) (hb : r[b]? = some zb) (hr : ai_rel op za (zb + o)) : ∃ q, ai_rb en sb op a b o = some q ∧ ai_ok r q.1 ∧ ai_sb w0 r q.2 := by
  obtain ⟨en', e1, e2⟩ := ai_rf_ok h ha hb hr
  unfold ai_rb
  split
  · rename_i l c hl
    have hlt := ai_lf_ok hl hr
    rw [if_neg (by rw [ai_cf_ok hs ha hb hlt]; decide), e1]
    refine ⟨_, rfl, e2, ?_⟩
    show ai_sb w0 r (if _ then _ else sb)
    split
    · intro k hk
      rcases List.mem_cons.mp hk with rfl | hk
      · refine ⟨za, zb, za, ha, hb, ha, ?_, ?_, ?_, ?_, ?_, ?_⟩
        · intro q
          cases l <;> cases q
        · intro q
          cases l <;> cases q
        · intro q
          cases l <;> cases q
        · intro q
          cases l with
          | true => rw [if_pos rfl] at hlt; exact hlt
          | false => cases q
        · intro q
          cases l with
          | true => cases q
          | false => rw [if_neg (by decide)] at hlt; exact hlt
        · intro q
          cases l with
          | true => exact absurd (show (100 : Nat) ≤ 4 from q) (by decide)
          | false => exact absurd (show (100 : Nat) ≤ 5 from q) (by decide)
      · exact hs k hk
    · exact hs
  · rw [e1]
    refine ⟨_, rfl, e2, ?_⟩
    show ai_sb w0 r (if _ then _ else sb)
    split
    · rename_i hop
      rw [Bool.and_eq_true, ai_beq] at hop
      have hne : za ≠ zb + o := by
        have hr' := hr
        rw [hop.1] at hr'
        exact hr'
      intro k hk
      rcases List.mem_cons.mp hk with rfl | hk
      · exact ⟨za, zb, za, ha, hb, ha, fun h => absurd (show (140 : Nat) = 0 from h) (by decide), fun h => absurd (show (140 : Nat) = 1 from h) (by decide), fun h => absurd (show (140 : Nat) = 2 from h) (by decide), fun h => absurd (show (140 : Nat) = 4 from h) (by decide), fun h => absurd (show (140 : Nat) = 5 from h) (by decide), fun _ => ⟨fun h => absurd (show (1000 : Nat) ≤ 140 from h) (by decide), fun _ => ⟨za, za, ha, ha, fun h => absurd (show (140 : Nat) < 132 from h) (by decide), fun h => absurd (show (200 : Nat) ≤ 140 from h) (by decide), fun h => absurd (show (500 : Nat) ≤ 140 from h) (by decide), fun _ => ⟨zb, hb, hne⟩⟩, fun _ _ => ⟨fun h => absurd (show (300 : Nat) ≤ 140 from h) (by decide), fun h => absurd (show (310 : Nat) ≤ 140 from h) (by decide), fun h => absurd (show (320 : Nat) ≤ 140 from h) (by decide), fun h => absurd (show (400 : Nat) ≤ 140 from h) (by decide), fun h => absurd (show (140 : Nat) = 330 from h) (by decide)⟩, fun h => absurd (show (140 : Nat) = 350 from h) (by decide)⟩⟩
      · exact hs k hk
    · exact hs
def ai_br (en : List ai_e) (op : Nat) (q : Nat × Nat × Int) (tgt fall : Nat) (lo : List (Nat × ai_v)) (sk : List ai_v) (kn : List ai_k) (sb : List ai_b) : List ai_s :=
  (match ai_rb en sb op q.1 q.2.1 q.2.2 with
    | some w => [(tgt, lo, sk, w.1, kn, w.2)]
    | none => []) ++ (match ai_rb en sb (ai_neg op) q.1 q.2.1 q.2.2 with
    | some w => [(fall, lo, sk, w.1, kn, w.2)]
    | none => [])
theorem ai_Jb1 {op tgt : Nat} {q : Nat × Nat × Int} (P : Int32 → Prop) (hq : ai_c1 en x = some q) (hP : ∀ (i : Int32) (za zb : Int), (i.toInt < 0 ↔ za < zb) → (i.toInt = 0 ↔ za = zb) → (P i → ai_rel op za zb) ∧ (¬ P i → ai_rel (ai_neg op) za zb))
    (row : ∀ (H : Heap) (locs : List Loc) (ls : Array Slot) (rest : List Value) (i : Int32), (P i → W p l e R s m args below meth c H locs cells slots Q (F0 m tgt ls rest)) → (¬ P i → W p l e R s m args below meth c H locs cells slots Q (F0 m pc' ls rest)) → W p l e R s m args below meth c H locs cells slots Q (F0 m pc ls (.int i :: rest)))
    (k : ∀ st ∈ ai_br en op q tgt pc' lo sk kn sb, ai_G TY WR w0 ad M p l e R s m args below meth c D tys A b L sx cells slots Q r0 st) : ai_G TY WR w0 ad M p l e R s m args below meth c D tys A b L sx cells slots Q r0 (pc, lo, x :: sk, en, kn, sb) := by
  intro r lv skc ws H locs ls hx g hP' hD hS hl
  obtain ⟨g1, g2, g3, g4, g5, g6, g7, g8⟩ := g
  obtain ⟨vx, s2, rfl, dx, k5⟩ := g4.cons
  obtain ⟨i, za, zb, rfl, a1, a2, a3, a4⟩ := ai_c1_ok g1 dx hq
  obtain ⟨p1, p2⟩ := hP i za (zb + q.2.2) a3 a4
  refine row H locs ls s2 i (fun h => ?_) (fun h => ?_)
  · obtain ⟨en1, q1, q2, q3⟩ := ai_rb_ok g1 g2 a1 a2 (p1 h)
    exact k (tgt, lo, sk, en1.1, kn, en1.2) (List.mem_append_left _ (by rw [q1]; exact List.mem_singleton.mpr rfl)) r lv _ ws H locs ls hx ⟨q2, q3, g3, k5, g5, g6, g7, g8⟩ hP' hD hS hl
  · obtain ⟨en1, q1, q2, q3⟩ := ai_rb_ok g1 g2 a1 a2 (p2 h)
    exact k (pc', lo, sk, en1.1, kn, en1.2) (List.mem_append_right _ (by rw [q1]; exact List.mem_singleton.mpr rfl)) r lv _ ws H locs ls hx ⟨q2, q3, g3, k5, g5, g6, g7, g8⟩ hP' hD hS hl
theorem ai_Jb2 {op tgt : Nat} (P : Int32 → Int32 → Prop) (hx1 : x.1 = 1) (hy1 : y.1 = 1) (hP : ∀ (i j : Int32) (za zb : Int), (i.toInt < j.toInt ↔ za < zb) → (i.toInt = j.toInt ↔ za = zb) → (P i j → ai_rel op za zb) ∧ (¬ P i j → ai_rel (ai_neg op) za zb))
    (row : ∀ (H : Heap) (locs : List Loc) (ls : Array Slot) (rest : List Value) (i j : Int32), (P i j → W p l e R s m args below meth c H locs cells slots Q (F0 m tgt ls rest)) → (¬ P i j → W p l e R s m args below meth c H locs cells slots Q (F0 m pc' ls rest)) → W p l e R s m args below meth c H locs cells slots Q (F0 m pc ls (.int j :: .int i :: rest)))
    (k : ∀ st ∈ ai_br en op (x.2.1, y.2.1, y.2.2.2 - x.2.2.2) tgt pc' lo sk kn sb, ai_G TY WR w0 ad M p l e R s m args below meth c D tys A b L sx cells slots Q r0 st) : ai_G TY WR w0 ad M p l e R s m args below meth c D tys A b L sx cells slots Q r0 (pc, lo, y :: x :: sk, en, kn, sb) := by
  intro r lv skc ws H locs ls hx g hP' hD hS hl
  obtain ⟨g1, g2, g3, g4, g5, g6, g7, g8⟩ := g
  obtain ⟨vy, s1, rfl, dy, k4⟩ := g4.cons
  obtain ⟨vx, s2, rfl, dx, k5⟩ := k4.cons
  rcases dx with ⟨q, -⟩ | ⟨-, za, i, a1, rfl, a3⟩ | ⟨q, -⟩ | ⟨q, -⟩ | ⟨q, -⟩
  · omega
  · rcases dy with ⟨q, -⟩ | ⟨-, zb, j, b1, rfl, b3⟩ | ⟨q, -⟩ | ⟨q, -⟩ | ⟨q, -⟩
    · omega
    · obtain ⟨p1, p2⟩ := hP i j za (zb + (y.2.2.2 - x.2.2.2)) (by omega) (by omega)
      refine row H locs ls s2 i j (fun h => ?_) (fun h => ?_)
      · obtain ⟨en1, q1, q2, q3⟩ := ai_rb_ok g1 g2 a1 b1 (p1 h)
        exact k (tgt, lo, sk, en1.1, kn, en1.2) (List.mem_append_left _ (by dsimp only; rw [q1]; exact List.mem_singleton.mpr rfl)) r lv _ ws H locs ls hx ⟨q2, q3, g3, k5, g5, g6, g7, g8⟩ hP' hD hS hl
      · obtain ⟨en1, q1, q2, q3⟩ := ai_rb_ok g1 g2 a1 b1 (p2 h)
        exact k (pc', lo, sk, en1.1, kn, en1.2) (List.mem_append_right _ (by dsimp only; rw [q1]; exact List.mem_singleton.mpr rfl)) r lv _ ws H locs ls hx ⟨q2, q3, g3, k5, g5, g6, g7, g8⟩ hP' hD hS hl
    all_goals omega
  all_goals omega
/-- a switch: what the value may be goes each to its place -/
def ai_sw (en : List ai_e) (a : Nat) (o : Int) (pc : Nat) (lo : List (Nat × ai_v)) (sk : List ai_v) (kn : List ai_k) (sb : List ai_b) (op : Nat) (kv off : Int) : List ai_s := match ai_rf en op a 0 (kv - o) with
  | some en' => [(((pc : Int) + off).toNat, lo, sk, en', kn, sb)]
  | none => []
theorem ai_Jtab (C : ai_cx M d p R s m args c D tys A b L sx cells slots) {dflt l1 h1 : Int} {offs : Array Int} {len : Nat} (hz : ai_z en = true) (hx1 : x.1 = 1) (hd : decode M.2.1 pc = .ok (.tableswitch dflt l1 h1 offs, len)) (hlen : (h1 - l1 + 1).toNat = offs.toList.length) (hpos : 0 ≤ (pc : Int) + dflt ∧ ∀ o ∈ offs.toList, 0 ≤ (pc : Int) + o)
    (k1 : ∀ (j : Nat) (off : Int), offs.toList[j]? = some off → ∀ st ∈ ai_sw en x.2.1 x.2.2.2 pc lo sk kn sb 0 (l1 + j) off, ai_G TY WR w0 ad M p l e R s m args below meth c D tys A b L sx cells slots Q r0 st)
    (k2 : ∀ st ∈ ai_sw en x.2.1 x.2.2.2 pc lo sk kn sb 2 l1 dflt, ai_G TY WR w0 ad M p l e R s m args below meth c D tys A b L sx cells slots Q r0 st) (k3 : ∀ st ∈ ai_sw en x.2.1 x.2.2.2 pc lo sk kn sb 4 h1 dflt, ai_G TY WR w0 ad M p l e R s m args below meth c D tys A b L sx cells slots Q r0 st) : ai_G TY WR w0 ad M p l e R s m args below meth c D tys A b L sx cells slots Q r0 (pc, lo, x :: sk, en, kn, sb) := by
  intro r lv skc ws H locs ls hx g hP' hD hS hl
  obtain ⟨g1, g2, g3, g4, g5, g6, g7, g8⟩ := g
  obtain ⟨vx, s2, rfl, dx, k5⟩ := g4.cons
  rcases dx with ⟨q, -⟩ | ⟨-, za, i, a1, rfl, a3⟩ | ⟨q, -⟩ | ⟨q, -⟩ | ⟨q, -⟩
  · omega
  · have z0 := ai_z_ok g1 hz
    by_cases c1 : i.toInt < l1
    · obtain ⟨en1, q1, q2⟩ := ai_rf_ok (op := 2) (o := l1 - x.2.2.2) g1 a1 z0 (show za < 0 + (l1 - x.2.2.2) by omega)
      exact lv_tableOut (tgt := ((pc : Int) + dflt).toNat) C.1 C.2.1 hd (Or.inl c1) (by omega) (k2 (((pc : Int) + dflt).toNat, lo, sk, en1, kn, sb) (by unfold ai_sw; rw [q1]; exact List.mem_singleton.mpr rfl) r lv _ ws H locs ls hx ⟨q2, g2, g3, k5, g5, g6, g7, g8⟩ hP' hD hS hl)
    · by_cases c2 : h1 < i.toInt
      · obtain ⟨en1, q1, q2⟩ := ai_rf_ok (op := 4) (o := h1 - x.2.2.2) g1 a1 z0 (show 0 + (h1 - x.2.2.2) < za by omega)
        exact lv_tableOut (tgt := ((pc : Int) + dflt).toNat) C.1 C.2.1 hd (Or.inr c2) (by omega) (k3 (((pc : Int) + dflt).toNat, lo, sk, en1, kn, sb) (by unfold ai_sw; rw [q1]; exact List.mem_singleton.mpr rfl) r lv _ ws H locs ls hx ⟨q2, g2, g3, k5, g5, g6, g7, g8⟩ hP' hD hS hl)
      · obtain ⟨off, ho⟩ : ∃ off, offs.toList[(i.toInt - l1).toNat]? = some off := ⟨_, List.getElem?_eq_getElem (by omega)⟩
        obtain ⟨en1, q1, q2⟩ := ai_rf_ok (op := 0) (o := l1 + ((i.toInt - l1).toNat : Nat) - x.2.2.2) g1 a1 z0 (show za = 0 + (l1 + ((i.toInt - l1).toNat : Nat) - x.2.2.2) by omega)
        have := hpos.2 off (List.mem_of_getElem? ho)
        exact lv_tableIn (off := off) (tgt := ((pc : Int) + off).toNat) C.1 C.2.1 hd c1 c2 (by rw [← ho]; simp) (by omega) (k1 _ off ho (((pc : Int) + off).toNat, lo, sk, en1, kn, sb) (by unfold ai_sw; rw [q1]; exact List.mem_singleton.mpr rfl) r lv _ ws H locs ls hx ⟨q2, g2, g3, k5, g5, g6, g7, g8⟩ hP' hD hS hl)
  all_goals omega
theorem ai_Jgoto (C : ai_cx M d p R s m args c D tys A b L sx cells slots) {off : Int} {tgt : Nat} (ht : (pc : Int) + off = (tgt : Int)) (hd : decode M.2.1 pc = .ok (.goto off, 3)) (k : ai_G TY WR w0 ad M p l e R s m args below meth c D tys A b L sx cells slots Q r0 (tgt, lo, sk, en, kn, sb)) : ai_G TY WR w0 ad M p l e R s m args below meth c D tys A b L sx cells slots Q r0 (pc, lo, sk, en, kn, sb) := by
  intro r lv skc ws H locs ls hx g hP hD hS hl
  exact lv_goto C.1 C.2.1 hd ht (k r lv skc ws H locs ls hx g hP hD hS hl)
end AIM
end
section
/-! one instruction -/
section AIN
variable {TY : List ai_c} {WR : List (Nat × Nat × Nat)} {w0 : va_W} {ad : List Nat} {M : ai_m} {d : Nat} {p : Program} {l : Launch} {e : Env} {R : Room} {s : State} {m : MethodId} {args : Array Value} {below : List Frame} {meth : Method} {c : Code} {D : va_G} {tys : ai_ty} {A : Nat → Prop} {b L : Nat} {sx : Nat → Int32} {cells slots : Nat} {Q : State → Prop} {r0 : List Int} {pc pc' : Nat} {lo : List (Nat × ai_v)} {sk : List ai_v} {en en' : List ai_e} {kn kn' : List ai_k} {sb sb' : List ai_b} {x y v : ai_v} {ss : List ai_s}
def ai_n2 (F : List ai_e → List ai_b → ai_v → ai_v → Option ai_q) (pc' : Nat) (lo : List (Nat × ai_v)) (sk : List ai_v) (en : List ai_e) (kn : List ai_k) (sb : List ai_b) : Option (List ai_s) := match sk with
  | y :: x :: k => (F en sb x y).map fun q => [(pc', lo, q.2.2 :: k, q.1, kn, q.2.1)]
  | _ => none
theorem ai_n2_ok {F : List ai_e → List ai_b → ai_v → ai_v → Option ai_q} {side : Int32 → Prop} {f : Int32 → Int32 → Int32} (hO : ai_O2 F side f) (hn : 1 < en.length) (hq : ai_n2 F pc' lo sk en kn sb = some ss)
    (row : ∀ (H : Heap) (locs : List Loc) (ls : Array Slot) (rest : List Value) (i j : Int32), ls.size = M.2.2.1 → side j → W p l e R s m args below meth c H locs cells slots Q (F0 m pc' ls (.int (f i j) :: rest)) → W p l e R s m args below meth c H locs cells slots Q (F0 m pc ls (.int j :: .int i :: rest)))
    (k : ∀ st ∈ ss, ai_G TY WR w0 ad M p l e R s m args below meth c D tys A b L sx cells slots Q r0 st) : ai_G TY WR w0 ad M p l e R s m args below meth c D tys A b L sx cells slots Q r0 (pc, lo, sk, en, kn, sb) := by
  unfold ai_n2 at hq
  split at hq
  · obtain ⟨q, h1, rfl⟩ := Option.map_eq_some_iff.mp hq
    exact ai_J2 hO hn h1 row (k _ (List.mem_singleton.mpr rfl))
  · cases hq
def ai_n2l (F : List ai_e → ai_v → ai_v → Option (List ai_e × ai_v)) (pc' : Nat) (lo : List (Nat × ai_v)) (sk : List ai_v) (en : List ai_e) (kn : List ai_k) (sb : List ai_b) : Option (List ai_s) := match sk with
  | y :: x :: k => (F en x y).map fun q => [(pc', lo, q.2 :: k, q.1, kn, sb)]
  | _ => none
theorem ai_n2l_ok {F : List ai_e → ai_v → ai_v → Option (List ai_e × ai_v)} {side : Int64 → Prop} {f : Int64 → Int64 → Int64} (hO : ai_P2 F side f) (hn : 1 < en.length) (hq : ai_n2l F pc' lo sk en kn sb = some ss)
    (row : ∀ (H : Heap) (locs : List Loc) (ls : Array Slot) (rest : List Value) (i j : Int64), side j → W p l e R s m args below meth c H locs cells slots Q (F0 m pc' ls (.long (f i j) :: rest)) → W p l e R s m args below meth c H locs cells slots Q (F0 m pc ls (.long j :: .long i :: rest)))
    (k : ∀ st ∈ ss, ai_G TY WR w0 ad M p l e R s m args below meth c D tys A b L sx cells slots Q r0 st) : ai_G TY WR w0 ad M p l e R s m args below meth c D tys A b L sx cells slots Q r0 (pc, lo, sk, en, kn, sb) := by
  unfold ai_n2l at hq
  split at hq
  · obtain ⟨q, h1, rfl⟩ := Option.map_eq_some_iff.mp hq
    exact ai_J2l hO hn h1 row (k _ (List.mem_singleton.mpr rfl))
  · cases hq
def ai_nlad (pc' : Nat) (lo : List (Nat × ai_v)) (sk : List ai_v) (en : List ai_e) (kn : List ai_k) (sb : List ai_b) : Option (List ai_s) := match sk with
  | y :: x :: k => (ai_lad en sb x y).map fun q => [(pc', lo, q.2.2 :: k, q.1, kn, q.2.1)]
  | _ => none
theorem ai_nlad_ok (C : ai_cx M d p R s m args c D tys A b L sx cells slots) (hn : 1 < en.length) (hd : decode M.2.1 pc = .ok (.ladd, 1)) (hq : ai_nlad (pc + 1) lo sk en kn sb = some ss) (k : ∀ st ∈ ss, ai_G TY WR w0 ad M p l e R s m args below meth c D tys A b L sx cells slots Q r0 st) : ai_G TY WR w0 ad M p l e R s m args below meth c D tys A b L sx cells slots Q r0 (pc, lo, sk, en, kn, sb) := by
  unfold ai_nlad at hq
  split at hq
  · rename_i y x sk'
    obtain ⟨q, h1, rfl⟩ := Option.map_eq_some_iff.mp hq
    intro r lv skc ws H locs ls hx g hP hD hS hl
    obtain ⟨g1, g2, g3, g4, g5, g6, g7, g8⟩ := g
    obtain ⟨vy, s1, rfl, dy, k4⟩ := g4.cons
    obtain ⟨vx, s2, rfl, dx, k5⟩ := k4.cons
    obtain ⟨i, j, rfl, rfl, r', e1, e2, e3, e4⟩ := ai_lad_ok w0 ad b r en sb x y vx vy q g1 g2 dx dy h1
    exact lv_ladd C.1 C.2.1 hd (k _ (List.mem_singleton.mpr rfl) r' lv _ ws H locs ls (hx.tr e1) ⟨e2, e3, g3.mono e1, ⟨e4, k5.mono e1⟩, g5, g6.mono e1, g7, ai_sc1 e1 (by rw [g1.1]; exact hn) g8⟩ hP hD hS hl)
  · cases hq
def ai_nc1 (n : Int) (pc' : Nat) (lo : List (Nat × ai_v)) (sk : List ai_v) (en : List ai_e) (kn : List ai_k) (sb : List ai_b) : Option (List ai_s) := some [(pc', lo, (1, 0, 0, n) :: sk, en, kn, sb)]
theorem ai_ofI {n : Int} (hr : ai_ir n n = true) : (Int32.ofInt n).toInt = n := by
  have := ai_irs hr
  have hsz : (Int32.size : Int) = 4294967296 := rfl
  rw [Int32.toInt_ofInt, Int.bmod_eq_of_le] <;> omega
/-- loads: which kinds of value -/
def ai_nld (tg : Nat → Bool) (i : Nat) (pc' : Nat) (lo : List (Nat × ai_v)) (sk : List ai_v) (en : List ai_e) (kn : List ai_k) (sb : List ai_b) : Option (List ai_s) :=
  (ai_get lo i).bind fun v => if tg v.1 = true then some [(pc', lo, v :: sk, en, kn, sb)] else none
def ai_tI (n : Nat) : Bool := n == 1 || n == 3
def ai_tL (n : Nat) : Bool := n == 2
def ai_tA (n : Nat) : Bool := n == 0 || n == 4
theorem ai_isI {r : List Int} {w : Value} (h : ai_dv ad b r v w) (ht : ai_tI v.1 = true) : ∃ i : Int32, w = .int i := by
  unfold ai_tI at ht
  rcases h with ⟨q, -⟩ | ⟨-, z, i, -, rfl, -⟩ | ⟨q, -⟩ | ⟨-, z, y, i, -, -, rfl, -⟩ | ⟨q, -⟩
  · rw [q] at ht; cases ht
  · exact ⟨i, rfl⟩
  · rw [q] at ht; cases ht
  · exact ⟨i, rfl⟩
  · rw [q] at ht; cases ht
theorem ai_isL {r : List Int} {w : Value} (h : ai_dv ad b r v w) (ht : ai_tL v.1 = true) : ∃ i : Int64, w = .long i := by
  unfold ai_tL at ht
  rcases h with ⟨q, -⟩ | ⟨q, -⟩ | ⟨-, z, i, -, rfl, -⟩ | ⟨q, -⟩ | ⟨q, -⟩
  · rw [q] at ht; cases ht
  · rw [q] at ht; cases ht
  · exact ⟨i, rfl⟩
  · rw [q] at ht; cases ht
  · rw [q] at ht; cases ht
theorem ai_isA {r : List Int} {w : Value} (h : ai_dv ad b r v w) (ht : ai_tA v.1 = true) : ∃ a : Nat, w = .ref a := by
  unfold ai_tA at ht
  rcases h with ⟨-, a, -, rfl⟩ | ⟨q, -⟩ | ⟨q, -⟩ | ⟨q, -⟩ | ⟨-, rfl⟩
  · exact ⟨a, rfl⟩
  · rw [q] at ht; cases ht
  · rw [q] at ht; cases ht
  · rw [q] at ht; cases ht
  · exact ⟨b, rfl⟩
theorem ai_nldI {i : Nat} (hq : ai_nld ai_tI i pc' lo sk en kn sb = some ss)
    (row : ∀ (H : Heap) (locs : List Loc) (ls : Array Slot) (rest : List Value) (w : Int32), ls[i]? = some (.val (.int w)) → W p l e R s m args below meth c H locs cells slots Q (F0 m pc' ls (.int w :: rest)) → W p l e R s m args below meth c H locs cells slots Q (F0 m pc ls rest))
    (k : ∀ st ∈ ss, ai_G TY WR w0 ad M p l e R s m args below meth c D tys A b L sx cells slots Q r0 st) : ai_G TY WR w0 ad M p l e R s m args below meth c D tys A b L sx cells slots Q r0 (pc, lo, sk, en, kn, sb) := by
  unfold ai_nld at hq
  obtain ⟨v, h1, hq⟩ := Option.bind_eq_some_iff.mp hq
  split at hq
  · rename_i ht
    cases hq
    refine ai_Jld h1 (fun H locs ls rest w r a1 a2 a3 => ?_) (k _ (List.mem_singleton.mpr rfl))
    obtain ⟨j, rfl⟩ := ai_isI a2 ht
    exact row H locs ls rest j a1 a3
  · cases hq
theorem ai_nldL {i : Nat} (hq : ai_nld ai_tL i pc' lo sk en kn sb = some ss)
    (row : ∀ (H : Heap) (locs : List Loc) (ls : Array Slot) (rest : List Value) (w : Int64), ls[i]? = some (.val (.long w)) → W p l e R s m args below meth c H locs cells slots Q (F0 m pc' ls (.long w :: rest)) → W p l e R s m args below meth c H locs cells slots Q (F0 m pc ls rest))
    (k : ∀ st ∈ ss, ai_G TY WR w0 ad M p l e R s m args below meth c D tys A b L sx cells slots Q r0 st) : ai_G TY WR w0 ad M p l e R s m args below meth c D tys A b L sx cells slots Q r0 (pc, lo, sk, en, kn, sb) := by
  unfold ai_nld at hq
  obtain ⟨v, h1, hq⟩ := Option.bind_eq_some_iff.mp hq
  split at hq
  · rename_i ht
    cases hq
    refine ai_Jld h1 (fun H locs ls rest w r a1 a2 a3 => ?_) (k _ (List.mem_singleton.mpr rfl))
    obtain ⟨j, rfl⟩ := ai_isL a2 ht
    exact row H locs ls rest j a1 a3
  · cases hq
theorem ai_nldA {i : Nat} (hq : ai_nld ai_tA i pc' lo sk en kn sb = some ss)
    (row : ∀ (H : Heap) (locs : List Loc) (ls : Array Slot) (rest : List Value) (w : Nat), ls[i]? = some (.val (.ref w)) → W p l e R s m args below meth c H locs cells slots Q (F0 m pc' ls (.ref w :: rest)) → W p l e R s m args below meth c H locs cells slots Q (F0 m pc ls rest))
    (k : ∀ st ∈ ss, ai_G TY WR w0 ad M p l e R s m args below meth c D tys A b L sx cells slots Q r0 st) : ai_G TY WR w0 ad M p l e R s m args below meth c D tys A b L sx cells slots Q r0 (pc, lo, sk, en, kn, sb) := by
  unfold ai_nld at hq
  obtain ⟨v, h1, hq⟩ := Option.bind_eq_some_iff.mp hq
  split at hq
  · rename_i ht
    cases hq
    refine ai_Jld h1 (fun H locs ls rest w r a1 a2 a3 => ?_) (k _ (List.mem_singleton.mpr rfl))
    obtain ⟨j, rfl⟩ := ai_isA a2 ht
    exact row H locs ls rest j a1 a3
  · cases hq
def ai_ns1 (tg : Nat → Bool) (nL i : Nat) (pc' : Nat) (lo : List (Nat × ai_v)) (sk : List ai_v) (en : List ai_e) (kn : List ai_k) (sb : List ai_b) : Option (List ai_s) := match sk with
  | v :: k => if tg v.1 = true ∧ i < nL then some [(pc', ai_st1 lo i v, k, en, kn, sb)] else none
  | _ => none
theorem ai_ns1I {i : Nat} (hq : ai_ns1 ai_tI M.2.2.1 i pc' lo sk en kn sb = some ss)
    (row : ∀ (H : Heap) (locs : List Loc) (ls : Array Slot) (lv : List (Nat × Value)) (rest : List Value) (w : Int32), lv_has ls M.2.2.1 lv → i < M.2.2.1 →
      (∀ ls' : Array Slot, lv_has ls' M.2.2.1 ((i, .int w) :: lv.filter (fun q => !(q.1 == i) && !(q.1 + 1 == i && q.2.category == 2))) → W p l e R s m args below meth c H locs cells slots Q (F0 m pc' ls' rest)) → W p l e R s m args below meth c H locs cells slots Q (F0 m pc ls (.int w :: rest)))
    (k : ∀ st ∈ ss, ai_G TY WR w0 ad M p l e R s m args below meth c D tys A b L sx cells slots Q r0 st) : ai_G TY WR w0 ad M p l e R s m args below meth c D tys A b L sx cells slots Q r0 (pc, lo, sk, en, kn, sb) := by
  unfold ai_ns1 at hq
  split at hq
  · split at hq
    · rename_i ht
      cases hq
      refine ai_Jst1 (fun H locs ls lv rest w r a1 a2 a3 => ?_) (k _ (List.mem_singleton.mpr rfl))
      obtain ⟨j, rfl⟩ := ai_isI a2 ht.1
      exact row H locs ls lv rest j a1 ht.2 a3
    · cases hq
  · cases hq
theorem ai_ns1A {i : Nat} (hq : ai_ns1 ai_tA M.2.2.1 i pc' lo sk en kn sb = some ss)
    (row : ∀ (H : Heap) (locs : List Loc) (ls : Array Slot) (lv : List (Nat × Value)) (rest : List Value) (w : Nat), lv_has ls M.2.2.1 lv → i < M.2.2.1 →
      (∀ ls' : Array Slot, lv_has ls' M.2.2.1 ((i, .ref w) :: lv.filter (fun q => !(q.1 == i) && !(q.1 + 1 == i && q.2.category == 2))) → W p l e R s m args below meth c H locs cells slots Q (F0 m pc' ls' rest)) → W p l e R s m args below meth c H locs cells slots Q (F0 m pc ls (.ref w :: rest)))
    (k : ∀ st ∈ ss, ai_G TY WR w0 ad M p l e R s m args below meth c D tys A b L sx cells slots Q r0 st) : ai_G TY WR w0 ad M p l e R s m args below meth c D tys A b L sx cells slots Q r0 (pc, lo, sk, en, kn, sb) := by
  unfold ai_ns1 at hq
  split at hq
  · split at hq
    · rename_i ht
      cases hq
      refine ai_Jst1 (fun H locs ls lv rest w r a1 a2 a3 => ?_) (k _ (List.mem_singleton.mpr rfl))
      obtain ⟨j, rfl⟩ := ai_isA a2 ht.1
      exact row H locs ls lv rest j a1 ht.2 a3
    · cases hq
  · cases hq
def ai_ns2 (nL i : Nat) (pc' : Nat) (lo : List (Nat × ai_v)) (sk : List ai_v) (en : List ai_e) (kn : List ai_k) (sb : List ai_b) : Option (List ai_s) := match sk with
  | v :: k => if ai_tL v.1 = true ∧ i + 1 < nL then some [(pc', ai_st2 lo i v, k, en, kn, sb)] else none
  | _ => none
theorem ai_ns2L {i : Nat} (hq : ai_ns2 M.2.2.1 i pc' lo sk en kn sb = some ss)
    (row : ∀ (H : Heap) (locs : List Loc) (ls : Array Slot) (lv : List (Nat × Value)) (rest : List Value) (w : Int64), lv_has ls M.2.2.1 lv → i + 1 < M.2.2.1 →
      (∀ ls' : Array Slot, lv_has ls' M.2.2.1 ((i, .long w) :: lv.filter (fun q => !(q.1 == i) && (!(q.1 == i + 1) && !(q.1 + 1 == i && q.2.category == 2)))) → W p l e R s m args below meth c H locs cells slots Q (F0 m pc' ls' rest)) → W p l e R s m args below meth c H locs cells slots Q (F0 m pc ls (.long w :: rest)))
    (k : ∀ st ∈ ss, ai_G TY WR w0 ad M p l e R s m args below meth c D tys A b L sx cells slots Q r0 st) : ai_G TY WR w0 ad M p l e R s m args below meth c D tys A b L sx cells slots Q r0 (pc, lo, sk, en, kn, sb) := by
  unfold ai_ns2 at hq
  split at hq
  · split at hq
    · rename_i ht
      cases hq
      refine ai_Jst2 (fun H locs ls lv rest w r a1 a2 a3 => ?_) (k _ (List.mem_singleton.mpr rfl))
      obtain ⟨j, rfl⟩ := ai_isL a2 ht.1
      exact row H locs ls lv rest j a1 ht.2 a3
    · cases hq
  · cases hq
/-- branches -/
def ai_tg (pc : Nat) (off : Int) : Option Nat := if 0 ≤ (pc : Int) + off then some ((pc : Int) + off).toNat else none
theorem ai_tg_ok {off : Int} {t : Nat} (h : ai_tg pc off = some t) : (pc : Int) + off = (t : Int) := by
  unfold ai_tg at h
  split at h
  · cases h
    omega
  · cases h
def ai_nb1 (op : Nat) (off : Int) (pc : Nat) (lo : List (Nat × ai_v)) (sk : List ai_v) (en : List ai_e) (kn : List ai_k) (sb : List ai_b) : Option (List ai_s) := match sk with
  | x :: k => (ai_tg pc off).bind fun t => (ai_c1 en x).map fun q => ai_br en op q t (pc + 3) lo k kn sb
  | _ => none
theorem ai_nb1_ok {op : Nat} {off : Int} (P : Int32 → Prop) (hP : ∀ (i : Int32) (za zb : Int), (i.toInt < 0 ↔ za < zb) → (i.toInt = 0 ↔ za = zb) → (P i → ai_rel op za zb) ∧ (¬ P i → ai_rel (ai_neg op) za zb)) (hq : ai_nb1 op off pc lo sk en kn sb = some ss)
    (row : ∀ (H : Heap) (locs : List Loc) (ls : Array Slot) (rest : List Value) (i : Int32) (tgt : Nat), (pc : Int) + off = (tgt : Int) → (P i → W p l e R s m args below meth c H locs cells slots Q (F0 m tgt ls rest)) → (¬ P i → W p l e R s m args below meth c H locs cells slots Q (F0 m (pc + 3) ls rest)) → W p l e R s m args below meth c H locs cells slots Q (F0 m pc ls (.int i :: rest)))
    (k : ∀ st ∈ ss, ai_G TY WR w0 ad M p l e R s m args below meth c D tys A b L sx cells slots Q r0 st) : ai_G TY WR w0 ad M p l e R s m args below meth c D tys A b L sx cells slots Q r0 (pc, lo, sk, en, kn, sb) := by
  unfold ai_nb1 at hq
  split at hq
  · obtain ⟨t, h1, hq⟩ := Option.bind_eq_some_iff.mp hq
    obtain ⟨q, h2, rfl⟩ := Option.map_eq_some_iff.mp hq
    exact ai_Jb1 P h2 hP (fun H locs ls rest i a1 a2 => row H locs ls rest i t (ai_tg_ok h1) a1 a2) k
  · cases hq
def ai_nb2 (op : Nat) (off : Int) (pc : Nat) (lo : List (Nat × ai_v)) (sk : List ai_v) (en : List ai_e) (kn : List ai_k) (sb : List ai_b) : Option (List ai_s) := match sk with
  | y :: x :: k => (ai_tg pc off).bind fun t => if x.1 = 1 ∧ y.1 = 1 then some (ai_br en op (x.2.1, y.2.1, y.2.2.2 - x.2.2.2) t (pc + 3) lo k kn sb) else none
  | _ => none
theorem ai_nb2_ok {op : Nat} {off : Int} (P : Int32 → Int32 → Prop) (hP : ∀ (i j : Int32) (za zb : Int), (i.toInt < j.toInt ↔ za < zb) → (i.toInt = j.toInt ↔ za = zb) → (P i j → ai_rel op za zb) ∧ (¬ P i j → ai_rel (ai_neg op) za zb)) (hq : ai_nb2 op off pc lo sk en kn sb = some ss)
    (row : ∀ (H : Heap) (locs : List Loc) (ls : Array Slot) (rest : List Value) (i j : Int32) (tgt : Nat), (pc : Int) + off = (tgt : Int) → (P i j → W p l e R s m args below meth c H locs cells slots Q (F0 m tgt ls rest)) → (¬ P i j → W p l e R s m args below meth c H locs cells slots Q (F0 m (pc + 3) ls rest)) → W p l e R s m args below meth c H locs cells slots Q (F0 m pc ls (.int j :: .int i :: rest)))
    (k : ∀ st ∈ ss, ai_G TY WR w0 ad M p l e R s m args below meth c D tys A b L sx cells slots Q r0 st) : ai_G TY WR w0 ad M p l e R s m args below meth c D tys A b L sx cells slots Q r0 (pc, lo, sk, en, kn, sb) := by
  unfold ai_nb2 at hq
  split at hq
  · obtain ⟨t, h1, hq⟩ := Option.bind_eq_some_iff.mp hq
    split at hq
    · rename_i ht
      cases hq
      exact ai_Jb2 P ht.1 ht.2 hP (fun H locs ls rest i j a1 a2 => row H locs ls rest i j t (ai_tg_ok h1) a1 a2) k
    · cases hq
  · cases hq
theorem ai_P1 (i : Int32) (za zb : Int) (h1 : i.toInt < 0 ↔ za < zb) (h2 : i.toInt = 0 ↔ za = zb) :
    ((i = 0 → za = zb) ∧ (¬ i = 0 → za ≠ zb)) ∧ ((i < 0 → za < zb) ∧ (¬ i < 0 → zb ≤ za)) ∧ ((0 < i → zb < za) ∧ (¬ 0 < i → za ≤ zb)) ∧ ((0 ≤ i → zb ≤ za) ∧ (¬ 0 ≤ i → za < zb)) ∧ ((i ≤ 0 → za ≤ zb) ∧ (¬ i ≤ 0 → zb < za)) := by
  have e0 : (0 : Int32).toInt = 0 := rfl
  simp only [Int32.lt_iff_toInt_lt, Int32.le_iff_toInt_le, ← Int32.toInt_inj, e0]
  omega
theorem ai_P2' (i j : Int32) (za zb : Int) (h1 : i.toInt < j.toInt ↔ za < zb) (h2 : i.toInt = j.toInt ↔ za = zb) :
    ((i = j → za = zb) ∧ (¬ i = j → za ≠ zb)) ∧ ((i < j → za < zb) ∧ (¬ i < j → zb ≤ za)) ∧ ((j < i → zb < za) ∧ (¬ j < i → za ≤ zb)) ∧ ((j ≤ i → zb ≤ za) ∧ (¬ j ≤ i → za < zb)) ∧ ((i ≤ j → za ≤ zb) ∧ (¬ i ≤ j → zb < za)) := by
  simp only [Int32.lt_iff_toInt_lt, Int32.le_iff_toInt_le, ← Int32.toInt_inj]
  omega
/-- a switch by pairs -/
def ai_nlk (dflt : Int) (ps : List (Int × Int)) (pc : Nat) (lo : List (Nat × ai_v)) (sk : List ai_v) (en : List ai_e) (kn : List ai_k) (sb : List ai_b) : Option (List ai_s) := match sk with
  | x :: k => if x.1 = 1 ∧ (ps.zip (ps.drop 1)).all (fun (a, next) => a.1 < next.1) = true ∧ 0 ≤ (pc : Int) + dflt ∧ (ps.all fun q => decide (0 ≤ (pc : Int) + q.2)) = true then
      some ((((pc : Int) + dflt).toNat, lo, k, en, kn, sb) :: ps.flatMap fun q => ai_sw en x.2.1 x.2.2.2 pc lo k kn sb 0 q.1 q.2) else none
  | _ => none
theorem ai_offs (d z : Int) : ∀ ps : List (Int × Int), Op.lookupswitch.offset ps d z = d ∨ ∃ q ∈ ps, q.1 = z ∧ Op.lookupswitch.offset ps d z = q.2
  | [] => Or.inl rfl
  | q :: r => by
    have e : Op.lookupswitch.offset (q :: r) d z = if q.1 = z then q.2 else Op.lookupswitch.offset r d z := rfl
    rw [e]
    by_cases h : q.1 = z
    · rw [if_pos h]
      exact Or.inr ⟨q, List.mem_cons_self, h, rfl⟩
    · rw [if_neg h]
      rcases ai_offs d z r with h1 | ⟨q1, a1, a2, a3⟩
      · exact Or.inl h1
      · exact Or.inr ⟨q1, List.mem_cons_of_mem _ a1, a2, a3⟩
theorem ai_nlk_ok (C : ai_cx M d p R s m args c D tys A b L sx cells slots) {dflt : Int} {ps : Array (Int × Int)} {len : Nat} (hz : ai_z en = true) (hd : decode M.2.1 pc = .ok (.lookupswitch dflt ps, len)) (hq : ai_nlk dflt ps.toList pc lo sk en kn sb = some ss) (k : ∀ st ∈ ss, ai_G TY WR w0 ad M p l e R s m args below meth c D tys A b L sx cells slots Q r0 st) : ai_G TY WR w0 ad M p l e R s m args below meth c D tys A b L sx cells slots Q r0 (pc, lo, sk, en, kn, sb) := by
  unfold ai_nlk at hq
  split at hq
  · rename_i x sk' 
    split at hq
    · rename_i hc
      obtain ⟨c1, c2, c3, c4⟩ := hc
      cases hq
      intro r lv skc ws H locs ls hx g hP' hD hS hl
      obtain ⟨g1, g2, g3, g4, g5, g6, g7, g8⟩ := g
      obtain ⟨vx, s2, rfl, dx, k5⟩ := g4.cons
      rcases dx with ⟨q, -⟩ | ⟨-, za, i, a1, rfl, a3⟩ | ⟨q, -⟩ | ⟨q, -⟩ | ⟨q, -⟩
      · omega
      · rcases ai_offs dflt i.toInt ps.toList with ho | ⟨q, q1, q2, ho⟩
        · exact lv_lookup (tgt := ((pc : Int) + dflt).toNat) C.1 C.2.1 hd c2 ho (by omega) (k _ List.mem_cons_self r lv _ ws H locs ls hx ⟨g1, g2, g3, k5, g5, g6, g7, g8⟩ hP' hD hS hl)
        · have := List.all_eq_true.mp c4 q q1
          simp only [decide_eq_true_eq] at this
          obtain ⟨en1, e1, e2⟩ := ai_rf_ok (op := 0) (o := q.1 - x.2.2.2) g1 a1 (ai_z_ok g1 hz) (show za = 0 + (q.1 - x.2.2.2) by omega)
          exact lv_lookup (tgt := ((pc : Int) + q.2).toNat) C.1 C.2.1 hd c2 ho (by omega) (k (((pc : Int) + q.2).toNat, lo, sk', en1, kn, sb) (List.mem_cons_of_mem _ (List.mem_flatMap.mpr ⟨q, q1, by unfold ai_sw; rw [e1]; exact List.mem_singleton.mpr rfl⟩)) r lv _ ws H locs ls hx ⟨e2, g2, g3, k5, g5, g6, g7, g8⟩ hP' hD hS hl)
      all_goals omega
    · cases hq
  · cases hq
/-- a row copied into another of the same bounds -/
def ai_ncp (TY : List ai_c) (WR : List (Nat × Nat × Nat)) (pc' : Nat) (lo : List (Nat × ai_v)) (sk : List ai_v) (en : List ai_e) (kn : List ai_k) (sb : List ai_b) : Option (List ai_s) := match sk with
  | n :: dp :: ds :: sp :: sr :: k => (TY[sr.2.1]?).bind fun t0 => (TY[ds.2.1]?).bind fun t1 => (ai_i en n).bind fun pn => (ai_i en dp).bind fun pd => (ai_i en sp).bind fun ps =>
      if sr.1 = 0 ∧ ds.1 = 0 ∧ t0.1 = 1 ∧ t1.1 = 1 ∧ t0.2.2 = t1.2.2 ∧ pd = (0, 0) ∧ ps = (0, 0) ∧ pn.1 = pn.2 ∧ 0 < pn.1 ∧ pn.1 ≤ t0.2.1 ∧ pn.1 ≤ t1.2.1 ∧ ai_wr WR ds.2.1 0 (pn.1.toNat - 1) = true ∧ (k.map fun v => if v.1 = 2 then 2 else 1).sum ≤ 8 then
        some [(pc', lo, k, en, ai_dr kn ds.2.1 0 (pn.1.toNat - 1), sb)] else none
  | _ => none
theorem ai_sum {r : List Int} : ∀ {vs : List ai_v} {ys : List Value}, ai_sk ad b r vs ys → (ys.map fun v => v.category).sum = (vs.map fun v => if v.1 = 2 then 2 else 1).sum
  | [], [], _ => rfl
  | [], _ :: _, h => h.elim
  | _ :: _, [], h => h.elim
  | v :: vs, y :: ys, h => by
    rw [List.map_cons, List.map_cons, List.sum_cons, List.sum_cons, ai_sum h.2, h.1.cat]
theorem ai_ncp_ok (C : ai_cx M d p R s m args c D tys A b L sx cells slots) {idx : Nat} (hd1 : 1 ≤ d) (hw1 : Cond.methodLink M.1.cls idx arraycopyName ∈ ai_GT) (hw2 : Cond.native arraycopyName ∈ ai_GT) (hw3 : Cond.static arraycopyName ∈ ai_GT) (hw4 : Cond.initialized "java/lang/System" ∈ ai_GT) (hd : decode M.2.1 pc = .ok (.invokestatic idx, 3))
    (hq : ai_ncp TY WR (pc + 3) lo sk en kn sb = some ss) (k : ∀ st ∈ ss, ai_G TY WR w0 ad M p l e R s m args below meth c D tys A b L sx cells slots Q r0 st) : ai_G TY WR w0 ad M p l e R s m args below meth c D tys A b L sx cells slots Q r0 (pc, lo, sk, en, kn, sb) := by
  unfold ai_ncp at hq
  split at hq
  · rename_i n dp ds sp sr sk'
    obtain ⟨t0, h0, hq⟩ := Option.bind_eq_some_iff.mp hq
    obtain ⟨t1, h1, hq⟩ := Option.bind_eq_some_iff.mp hq
    obtain ⟨pn, h2, hq⟩ := Option.bind_eq_some_iff.mp hq
    obtain ⟨pd, h3, hq⟩ := Option.bind_eq_some_iff.mp hq
    obtain ⟨ps, h4, hq⟩ := Option.bind_eq_some_iff.mp hq
    split at hq
    · rename_i hc
      obtain ⟨c1, c2, c3, c4, c5, c6, c7, c8, c9, c10, c11, c12, c13⟩ := hc
      injection hq with hq
      subst hq
      subst c6
      subst c7
      intro r lv skc ws H locs ls hx g hP' hD hS hl
      obtain ⟨g1, g2, g3, g4, g5, g6, g7, g8⟩ := g
      obtain ⟨w1, s1, rfl, d1, k1⟩ := g4.cons
      obtain ⟨w2, s2, rfl, d2, k2⟩ := k1.cons
      obtain ⟨w3, s3, rfl, d3, k3⟩ := k2.cons
      obtain ⟨w4, s4, rfl, d4, k4⟩ := k3.cons
      obtain ⟨w5, s5, rfl, d5, k5⟩ := k4.cons
      obtain ⟨-, -, i1, -, rfl, -, a1, a2⟩ := ai_i_ok g1 d1 h2
      obtain ⟨-, -, i2, -, rfl, -, a3, a4⟩ := ai_i_ok g1 d2 h3
      obtain ⟨-, -, i4, -, rfl, -, a5, a6⟩ := ai_i_ok g1 d4 h4
      obtain ⟨q0, e0, x1, x2, x3⟩ := g5.get h0
      obtain ⟨q1, e1, y1, y2, y3⟩ := g5.get h1
      cases ai_ref0 d5 c1 x2
      cases ai_ref0 d3 c2 y2
      have z2 : i2 = 0 := Int32.toInt_inj.mp (by show i2.toInt = 0; dsimp only at a3 a4; omega)
      have z4 : i4 = 0 := Int32.toInt_inj.mp (by show i4.toInt = 0; dsimp only at a5 a6; omega)
      subst z2
      subst z4
      have en1 : (i1.toNatClampNeg : Int) = i1.toInt := by
        show ((i1.toInt.toNat : Nat) : Int) = i1.toInt
        omega
      rcases x3 with ⟨q, -⟩ | ⟨-, cA, f, rfl, ⟨u0, f1⟩, f2⟩ | ⟨q, -⟩ | ⟨q, -⟩
      · omega
      · rcases y3 with ⟨q, -⟩ | ⟨t10, cB, f', rfl, ⟨u1, f3⟩, f4⟩ | ⟨q, -⟩ | ⟨q, -⟩
        · omega
        · rw [c3] at f1
          have f3' := f3
          rw [c4] at f3
          have hlt : ¬ i1 < 0 := by
            rw [Int32.lt_iff_toInt_lt]
            show ¬ i1.toInt < 0
            omega
          have hsum := ai_sum k5
          refine va_copyi C.1 C.2.1 (by rw [C.2.2.1, hl.1]) C.2.2.2.1 (C.2.2.2.2.1 _ hw1) (C.2.2.2.2.1 _ hw2) (C.2.2.2.2.1 _ hw3) (C.2.2.2.2.1 _ hw4) C.2.2.2.2.2.2.1 hP' hD hS sr.2.1 ds.2.1 u0 u1 x1 y1 f1 f3 rfl (by decide) (by decide) hlt (by show 0 + i1.toNatClampNeg ≤ t0.2.1; omega) (by show 0 + i1.toNatClampNeg ≤ t1.2.1; omega) (fun _ _ => rfl) ?_ ?_ hd (fun H1 locs1 hP1 hD1 hS1 => ?_)
          · have := C.2.2.2.2.2.2.2.2.1.1
            omega
          · have := C.2.2.2.2.2.2.2.2.1.2.1
            rw [hsum, show nativeFrameWords "java/lang/System" "arraycopy" 5 = 7 from by decide]
            omega
          · have key : ∀ j : Nat, (pn.1.toNat - 1 < j) → va_cpy f f' (0 : Int32).toNatClampNeg (0 : Int32).toNatClampNeg i1.toNatClampNeg j = f' j := fun j hj => by
              unfold va_cpy
              rw [if_neg]
              show ¬ (0 ≤ j ∧ j < 0 + i1.toNatClampNeg)
              omega
            refine k _ (List.mem_singleton.mpr rfl) r lv _ _ H1 locs1 ls hx ⟨g1, g2, g3, k5, ?_, ?_, ?_, g8⟩ hP1 hD1 hS1 hl
            · refine g5.set h1 y1 (Or.inr (Or.inl ⟨t10, cB, _, rfl, ⟨u1, f3'⟩, fun j q hj hp => ?_⟩))
              by_cases hjn : j < i1.toNatClampNeg
              · have ej : va_cpy f f' (0 : Int32).toNatClampNeg (0 : Int32).toNatClampNeg i1.toNatClampNeg j = f j := by
                  show (if 0 ≤ j ∧ j < 0 + i1.toNatClampNeg then f (0 + (j - 0)) else f' j) = f j
                  rw [if_pos (by omega), show 0 + (j - 0) = j by omega]
                rw [ej]
                exact f2 j q (by omega) (by rw [c5]; exact hp)
              · rw [key j (by omega)]
                exact f4 j q hj hp
            · intro q hq
              obtain ⟨m1, m2⟩ := ai_dr_in hq
              obtain ⟨u, u1, u2⟩ := g6 q m1
              exact ⟨u, u1.setA (j := 0) y1 (fun hcc _ => key _ (by have := m2 hcc; omega)), u2⟩
            · intro c' i' u hu h0
              refine (g7 c' i' u hu h0).setA (j := 0) y1 (fun hcc _ => key _ ?_)
              subst hcc
              rcases Nat.lt_or_ge (pn.1.toNat - 1) i' with hh | hh
              · exact hh
              · rw [ai_wr_in c12 (by omega) hh] at hu
                cases hu
        · omega
        · omega
      · omega
      · omega
    · cases hq
  · cases hq
end AIN
end
section
/-! any instruction but calls, and that its steps are sound -/
def ai_mok (M : ai_m) : Prop := (∀ q ∈ M.2.2.2.2.2.1, decode M.2.1 q.1 = .ok (q.2.1, q.2.2)) ∧ (∀ q ∈ M.2.2.2.2.2.2.1, ai_flok M.1.cls q.2.1 q.2.2 q.1) ∧ (∀ q ∈ M.2.2.2.2.2.2.2.1, ai_fpok M.1.cls q.2.1 q.2.2.1 q.1 q.2.2.2) ∧ (∀ q ∈ M.2.2.2.2.2.2.2.2.1, Cond.constant M.1.cls q.1 (Int32.ofInt q.2) ∈ ai_GT ∧ ai_ir q.2 q.2 = true) ∧ ∀ q ∈ M.2.2.2.2.2.2.2.2.2.1, Cond.constantLong M.1.cls q.1 (Int64.ofInt q.2) ∈ ai_GT ∧ (Int64.ofInt q.2).toInt = q.2
theorem ai_ofI8 {n : Int} (h : -128 ≤ n ∧ n ≤ 127) : ((Int8.ofInt n).toInt32).toInt = n := by
  have hsz : (Int8.size : Int) = 256 := rfl
  rw [Int8.toInt_toInt32, Int8.toInt_ofInt, Int.bmod_eq_of_le] <;> omega
theorem ai_ofI16 {n : Int} (h : -32768 ≤ n ∧ n ≤ 32767) : ((Int16.ofInt n).toInt32).toInt = n := by
  have hsz : (Int16.size : Int) = 65536 := rfl
  rw [Int16.toInt_toInt32, Int16.toInt_ofInt, Int.bmod_eq_of_le] <;> omega
theorem ai_ofL (n : Fin 2) : (Int64.ofNat n).toInt = ((n : Nat) : Int) := by
  match n with
  | 0 => rfl
  | 1 => rfl
def ai_nx (TY : List ai_c) (WR : List (Nat × Nat × Nat)) (M : ai_m) (ins : Instr) (len pc : Nat) (lo : List (Nat × ai_v)) (sk : List ai_v) (en : List ai_e) (kn : List ai_k) (sb : List ai_b) : Option (List ai_s) := match ins, len with
  | .iconst n, 1 => if ai_ir n n = true then some [(pc + 1, lo, (1, 0, 0, n) :: sk, en, kn, sb)] else none
  | .bipush n, 2 => if -128 ≤ n ∧ n ≤ 127 then some [(pc + 2, lo, (1, 0, 0, n) :: sk, en, kn, sb)] else none
  | .sipush n, 3 => if -32768 ≤ n ∧ n ≤ 32767 then some [(pc + 3, lo, (1, 0, 0, n) :: sk, en, kn, sb)] else none
  | .lconst n, 1 => some [(pc + 1, lo, (2, 0, 0, ((n : Nat) : Int)) :: sk, en, kn, sb)]
  | .ldc i, 2 => (M.2.2.2.2.2.2.2.2.1.find? fun q => Nat.beq q.1 i).map fun q => [(pc + 2, lo, (1, 0, 0, q.2) :: sk, en, kn, sb)]
  | .ldc_w i, 3 => (M.2.2.2.2.2.2.2.2.1.find? fun q => Nat.beq q.1 i).map fun q => [(pc + 3, lo, (1, 0, 0, q.2) :: sk, en, kn, sb)]
  | .ldc2_w i, 3 => (M.2.2.2.2.2.2.2.2.2.1.find? fun q => Nat.beq q.1 i).map fun q => [(pc + 3, lo, (2, 0, 0, q.2) :: sk, en, kn, sb)]
  | .iload_n i, 1 => ai_nld ai_tI (i : Nat) (pc + 1) lo sk en kn sb
  | .iload i, 2 => ai_nld ai_tI i (pc + 2) lo sk en kn sb
  | .lload_n i, 1 => ai_nld ai_tL (i : Nat) (pc + 1) lo sk en kn sb
  | .lload i, 2 => ai_nld ai_tL i (pc + 2) lo sk en kn sb
  | .aload_n i, 1 => ai_nld ai_tA (i : Nat) (pc + 1) lo sk en kn sb
  | .aload i, 2 => ai_nld ai_tA i (pc + 2) lo sk en kn sb
  | .istore_n i, 1 => ai_ns1 ai_tI M.2.2.1 (i : Nat) (pc + 1) lo sk en kn sb
  | .istore i, 2 => ai_ns1 ai_tI M.2.2.1 i (pc + 2) lo sk en kn sb
  | .astore_n i, 1 => ai_ns1 ai_tA M.2.2.1 (i : Nat) (pc + 1) lo sk en kn sb
  | .astore i, 2 => ai_ns1 ai_tA M.2.2.1 i (pc + 2) lo sk en kn sb
  | .lstore_n i, 1 => ai_ns2 M.2.2.1 (i : Nat) (pc + 1) lo sk en kn sb
  | .lstore i, 2 => ai_ns2 M.2.2.1 i (pc + 2) lo sk en kn sb
  | .iinc i n, 3 => (ai_get lo i).bind fun v => if ai_ir n n = true ∧ i < M.2.2.1 then (ai_add en sb v (1, 0, 0, n)).map fun q => [(pc + 3, ai_st1 lo i q.2.2, sk, q.1, kn, q.2.1)] else none
  | .iadd, 1 => ai_n2 ai_add (pc + 1) lo sk en kn sb
  | .isub, 1 => ai_n2 ai_sub (pc + 1) lo sk en kn sb
  | .imul, 1 => ai_n2 ai_mulF (pc + 1) lo sk en kn sb
  | .iand, 1 => ai_n2 ai_andF (pc + 1) lo sk en kn sb
  | .idiv, 1 => ai_n2 ai_div (pc + 1) lo sk en kn sb
  | .irem, 1 => ai_n2 ai_rem (pc + 1) lo sk en kn sb
  | .ior, 1 => ai_n2 ai_orF (pc + 1) lo sk en kn sb
  | .ishl, 1 => ai_n2 ai_shlF (pc + 1) lo sk en kn sb
  | .ishr, 1 => ai_n2 ai_shrF (pc + 1) lo sk en kn sb
  | .iushr, 1 => ai_n2 ai_top (pc + 1) lo sk en kn sb
  | .ladd, 1 => ai_nlad (pc + 1) lo sk en kn sb
  | .lmul, 1 => ai_n2l ai_lmul (pc + 1) lo sk en kn sb
  | .ldiv, 1 => ai_n2l (ai_ltop true) (pc + 1) lo sk en kn sb
  | .lrem, 1 => ai_n2l (ai_ltop true) (pc + 1) lo sk en kn sb
  | .i2l, 1 => match sk with
    | x :: k => if x.1 = 1 then some [(pc + 1, lo, (2, x.2.1, 0, x.2.2.2) :: k, en, kn, sb)] else none
    | _ => none
  | .dup, 1 => match sk with
    | x :: k => if ¬ x.1 = 2 then some [(pc + 1, lo, x :: x :: k, en, kn, sb)] else none
    | _ => none
  | .pop, 1 => match sk with
    | x :: k => if ¬ x.1 = 2 then some [(pc + 1, lo, k, en, kn, sb)] else none
    | _ => none
  | .pop2, 1 => match sk with
    | x :: k => if x.1 = 2 then some [(pc + 1, lo, k, en, kn, sb)] else none
    | _ => none
  | .i2b, 1 => match sk with
    | x :: k => (ai_i en x).map fun _ => [(pc + 1, lo, (1, en.length, 0, 0) :: k, ai_nu en (-2147483648) 2147483647, kn, sb)]
    | _ => none
  | .i2s, 1 => match sk with
    | x :: k => (ai_i en x).map fun _ => [(pc + 1, lo, (1, en.length, 0, 0) :: k, ai_nu en (-2147483648) 2147483647, kn, sb)]
    | _ => none
  | .lcmp, 1 => match sk with
    | y :: x :: k => if x.1 = 2 ∧ y.1 = 2 then some [(pc + 1, lo, (3, x.2.1, y.2.1, y.2.2.2 - x.2.2.2) :: k, en, kn, sb)] else none
    | _ => none
  | .dup2, 1 => match sk with
    | y :: x :: k => if ¬ x.1 = 2 ∧ ¬ y.1 = 2 then some [(pc + 1, lo, y :: x :: y :: x :: k, en, kn, sb)] else none
    | _ => none
  | .ifCond .eq off, 3 => ai_nb1 0 off pc lo sk en kn sb
  | .if_icmp .eq off, 3 => ai_nb2 0 off pc lo sk en kn sb
  | .ifCond .ne off, 3 => ai_nb1 1 off pc lo sk en kn sb
  | .if_icmp .ne off, 3 => ai_nb2 1 off pc lo sk en kn sb
  | .ifCond .lt off, 3 => ai_nb1 2 off pc lo sk en kn sb
  | .if_icmp .lt off, 3 => ai_nb2 2 off pc lo sk en kn sb
  | .ifCond .ge off, 3 => ai_nb1 3 off pc lo sk en kn sb
  | .if_icmp .ge off, 3 => ai_nb2 3 off pc lo sk en kn sb
  | .ifCond .gt off, 3 => ai_nb1 4 off pc lo sk en kn sb
  | .if_icmp .gt off, 3 => ai_nb2 4 off pc lo sk en kn sb
  | .ifCond .le off, 3 => ai_nb1 5 off pc lo sk en kn sb
  | .if_icmp .le off, 3 => ai_nb2 5 off pc lo sk en kn sb
  | .goto off, 3 => (ai_tg pc off).map fun t => [(t, lo, sk, en, kn, sb)]
  | .lookupswitch dflt ps, _ => ai_nlk dflt ps.toList pc lo sk en kn sb
  | .tableswitch dflt l1 h1 offs, _ => match sk with
    | x :: k => if x.1 = 1 ∧ (h1 - l1 + 1).toNat = offs.toList.length ∧ 0 ≤ (pc : Int) + dflt ∧ (offs.toList.all fun o => decide (0 ≤ (pc : Int) + o)) = true then
        some (ai_sw en x.2.1 x.2.2.2 pc lo k kn sb 2 l1 dflt ++ (ai_sw en x.2.1 x.2.2.2 pc lo k kn sb 4 h1 dflt ++ (List.range offs.toList.length).flatMap fun j => (offs.toList[j]?).toList.flatMap fun off => ai_sw en x.2.1 x.2.2.2 pc lo k kn sb 0 (l1 + (j : Nat)) off)) else none
    | _ => none
  | .getfield i, 3 => match sk with
    | x :: k => (M.2.2.2.2.2.2.1.find? fun q => Nat.beq q.1 i).bind fun q => if x.1 = 0 then (ai_rd TY en kn q.2.1 x.2.1 q.2.2).map fun w => [(pc + 3, lo, w.2.2 :: k, w.1, w.2.1, sb)] else none
    | _ => none
  | .putfield i, 3 => match sk with
    | v :: x :: k => (M.2.2.2.2.2.2.2.1.find? fun q => Nat.beq q.1 i).bind fun q => if x.1 = 0 ∧ ((TY[x.2.1]?).bind fun t => t.2.2[q.2.2.1]?).map (fun f => f.1) = some q.2.2.2 then (ai_wf TY WR en kn q.2.1 x.2.1 q.2.2.1 v).map fun w => [(pc + 3, lo, k, en, w, sb)] else none
    | _ => none
  | .iaload, 1 => match sk with
    | y :: x :: k => if x.1 = 0 then (ai_ra TY en kn 1 x.2.1 y).map fun w => [(pc + 1, lo, w.2.2 :: k, w.1, w.2.1, ai_gt WR x.2.1 y w.2.2 sb)]
        else if x.1 = 4 ∧ M.2.2.2.2.1 = true ∧ y.1 = 1 ∧ y.2.1 = 1 ∧ 0 ≤ y.2.2.2 ∧ y.2.2.2 ≤ 4 then some [(pc + 1, lo, (1, 3 + y.2.2.2.toNat, 0, 0) :: k, en, kn, sb)] else none
    | _ => none
  | .baload, 1 => match sk with
    | y :: x :: k => if x.1 = 0 then (ai_ra TY en kn 2 x.2.1 y).map fun w => [(pc + 1, lo, w.2.2 :: k, w.1, w.2.1, ai_gt WR x.2.1 y w.2.2 sb)] else none
    | _ => none
  | .iastore, 1 => match sk with
    | v :: y :: x :: k => if x.1 = 0 then (ai_wa TY WR en kn 1 x.2.1 y v).map fun w => [(pc + 1, lo, k, en, w, sb)] else none
    | _ => none
  | .bastore, 1 => match sk with
    | v :: y :: x :: k => if x.1 = 0 then (ai_wa TY WR en kn 2 x.2.1 y v).map fun w => [(pc + 1, lo, k, en, w, sb)] else none
    | _ => none
  | .laload, 1 => match sk with
    | y :: x :: k => if x.1 = 0 ∧ ai_il TY en x.2.1 y = true then some [(pc + 1, lo, (2, en.length, 0, 0) :: k, ai_nu en (-9223372036854775808) 9223372036854775807, kn, sb)] else none
    | _ => none
  | .lastore, 1 => match sk with
    | v :: y :: x :: k => if x.1 = 0 ∧ v.1 = 2 ∧ ai_il TY en x.2.1 y = true then some [(pc + 1, lo, k, en, kn, sb)] else none
    | _ => none
  | .aaload, 1 => match sk with
    | y :: x :: k => (TY[x.2.1]?).bind fun t => (ai_i en y).bind fun w => if x.1 = 0 ∧ t.1 = 4 ∧ 0 ≤ w.1 ∧ w.2 < t.2.1 ∧ t.2.1 = t.2.2.length then some ((ai_aa t en y w.1.toNat (w.2.toNat - w.1.toNat)).map fun q => (pc + 1, lo, q.2 :: k, q.1, kn, sb)) else none
    | _ => none
  | .arraylength, 1 => match sk with
    | x :: k => (TY[x.2.1]?).bind fun t => if x.1 = 0 ∧ (t.1 = 1 ∨ t.1 = 2 ∨ t.1 = 3) ∧ t.2.1 < 2147483648 then some [(pc + 1, lo, (1, 0, 0, (t.2.1 : Int)) :: k, en, kn, sb)] else none
    | _ => none
  | _, _ => none
section AIX
variable {TY : List ai_c} {WR : List (Nat × Nat × Nat)} {w0 : va_W} {ad : List Nat} {M : ai_m} {d : Nat} {p : Program} {l : Launch} {e : Env} {R : Room} {s : State} {m : MethodId} {args : Array Value} {below : List Frame} {meth : Method} {c : Code} {D : va_G} {tys : ai_ty} {A : Nat → Prop} {b L : Nat} {sx : Nat → Int32} {cells slots : Nat} {Q : State → Prop} {r0 : List Int} {pc pc' : Nat} {lo : List (Nat × ai_v)} {sk : List ai_v} {en en' : List ai_e} {kn kn' : List ai_k} {sb sb' : List ai_b} {x y v : ai_v} {ss : List ai_s}
set_option maxHeartbeats 4000000 in
theorem ai_nx_ok (C : ai_cx M d p R s m args c D tys A b L sx cells slots) (hM : ai_mok M) {ins : Instr} {len : Nat} (hn : 1 < en.length) (hz : ai_z en = true) (hd : decode M.2.1 pc = .ok (ins, len)) (hq : ai_nx TY WR M ins len pc lo sk en kn sb = some ss) (k : ∀ st ∈ ss, ai_G TY WR w0 ad M p l e R s m args below meth c D tys A b L sx cells slots Q r0 st) : ai_G TY WR w0 ad M p l e R s m args below meth c D tys A b L sx cells slots Q r0 (pc, lo, sk, en, kn, sb) := by
  unfold ai_nx at hq
  split at hq
  · split at hq
    · rename_i hr
      cases hq
      exact ai_Jc (ai_ofI hr) hz (fun H locs ls rest k => lv_iconst C.1 C.2.1 hd rfl k) (k _ (List.mem_singleton.mpr rfl))
    · cases hq
  · split at hq
    · rename_i hr
      cases hq
      exact ai_Jc (ai_ofI8 hr) hz (fun H locs ls rest k => lv_bipush C.1 C.2.1 hd rfl k) (k _ (List.mem_singleton.mpr rfl))
    · cases hq
  · split at hq
    · rename_i hr
      cases hq
      exact ai_Jc (ai_ofI16 hr) hz (fun H locs ls rest k => lv_sipush C.1 C.2.1 hd rfl k) (k _ (List.mem_singleton.mpr rfl))
    · cases hq
  · cases hq
    exact ai_Jcl (ai_ofL _) hz (fun H locs ls rest k => lv_lconst C.1 C.2.1 hd rfl k) (k _ (List.mem_singleton.mpr rfl))
  · obtain ⟨q, h1, rfl⟩ := Option.map_eq_some_iff.mp hq
    have h2 := List.find?_some h1
    have h2 := ai_beq.mp h2
    obtain ⟨h3, h4⟩ := hM.2.2.2.1 q (List.mem_of_find?_eq_some h1)
    rw [h2] at h3
    exact ai_Jc (ai_ofI h4) hz (fun H locs ls rest k => lv_ldc C.1 C.2.1 C.2.2.2.1 (C.2.2.2.2.1 _ h3) hd k) (k _ (List.mem_singleton.mpr rfl))
  · obtain ⟨q, h1, rfl⟩ := Option.map_eq_some_iff.mp hq
    have h2 := List.find?_some h1
    have h2 := ai_beq.mp h2
    obtain ⟨h3, h4⟩ := hM.2.2.2.1 q (List.mem_of_find?_eq_some h1)
    rw [h2] at h3
    exact ai_Jc (ai_ofI h4) hz (fun H locs ls rest k => lv_ldcw C.1 C.2.1 C.2.2.2.1 (C.2.2.2.2.1 _ h3) hd k) (k _ (List.mem_singleton.mpr rfl))
  · obtain ⟨q, h1, rfl⟩ := Option.map_eq_some_iff.mp hq
    have h2 := List.find?_some h1
    have h2 := ai_beq.mp h2
    obtain ⟨h3, h4⟩ := hM.2.2.2.2 q (List.mem_of_find?_eq_some h1)
    rw [h2] at h3
    exact ai_Jcl h4 hz (fun H locs ls rest k => lv_ldc2 C.1 C.2.1 C.2.2.2.1 (C.2.2.2.2.1 _ h3) hd k) (k _ (List.mem_singleton.mpr rfl))
  · exact ai_nldI hq (fun H locs ls rest w h k => lv_iload_n C.1 C.2.1 hd rfl h k) k
  · exact ai_nldI hq (fun H locs ls rest w h k => lv_iload C.1 C.2.1 hd h k) k
  · exact ai_nldL hq (fun H locs ls rest w h k => lv_lload_n C.1 C.2.1 hd rfl h k) k
  · exact ai_nldL hq (fun H locs ls rest w h k => lv_lload C.1 C.2.1 hd h k) k
  · exact ai_nldA hq (fun H locs ls rest w h k => lv_aload_n C.1 C.2.1 hd rfl h k) k
  · exact ai_nldA hq (fun H locs ls rest w h k => lv_aload C.1 C.2.1 hd h k) k
  · exact ai_ns1I hq (fun H locs ls lv rest w h1 h2 k => lv_istore_n C.1 C.2.1 hd rfl h1 h2 rfl k) k
  · exact ai_ns1I hq (fun H locs ls lv rest w h1 h2 k => lv_istore C.1 C.2.1 hd h1 h2 rfl k) k
  · exact ai_ns1A hq (fun H locs ls lv rest w h1 h2 k => lv_astore_n C.1 C.2.1 hd rfl h1 h2 rfl k) k
  · exact ai_ns1A hq (fun H locs ls lv rest w h1 h2 k => lv_astore C.1 C.2.1 hd h1 h2 rfl k) k
  · exact ai_ns2L hq (fun H locs ls lv rest w h1 h2 k => lv_lstore_n C.1 C.2.1 hd rfl h1 h2 rfl k) k
  · exact ai_ns2L hq (fun H locs ls lv rest w h1 h2 k => lv_lstore C.1 C.2.1 hd h1 h2 rfl k) k
  · obtain ⟨v, h1, hq⟩ := Option.bind_eq_some_iff.mp hq
    split at hq
    · rename_i hc
      obtain ⟨q, h2, rfl⟩ := Option.map_eq_some_iff.mp hq
      exact ai_Jinc C h1 hz hn hc.1 hc.2 h2 hd (k _ (List.mem_singleton.mpr rfl))
    · cases hq
  · exact ai_n2_ok ai_add_ok hn hq (fun H locs ls rest i j _ _ k => lv_iadd C.1 C.2.1 hd k) k
  · exact ai_n2_ok ai_sub_ok hn hq (fun H locs ls rest i j _ _ k => lv_isub C.1 C.2.1 hd k) k
  · exact ai_n2_ok ai_mulF_ok hn hq (fun H locs ls rest i j _ _ k => lv_imul C.1 C.2.1 hd k) k
  · exact ai_n2_ok ai_andF_ok hn hq (fun H locs ls rest i j _ _ k => lv_iand C.1 C.2.1 hd k) k
  · exact ai_n2_ok ai_div_ok hn hq (fun H locs ls rest i j _ h k => lv_idiv C.1 C.2.1 hd h k) k
  · exact ai_n2_ok ai_rem_ok hn hq (fun H locs ls rest i j _ h k => lv_irem C.1 C.2.1 hd h k) k
  · exact ai_n2_ok ai_orF_ok hn hq (fun H locs ls rest i j _ _ k => lv_ior C.1 C.2.1 hd k) k
  · exact ai_n2_ok ai_shlF_ok hn hq (fun H locs ls rest i j _ _ k => lv_ishl C.1 C.2.1 hd k) k
  · exact ai_n2_ok ai_shrF_ok hn hq (fun H locs ls rest i j _ _ k => lv_ishr C.1 C.2.1 hd k) k
  · exact ai_n2_ok (ai_top_ok (fun x y => (x.toUInt32 >>> (y.toUInt32 &&& Int32.toUInt32 31)).toInt32)) hn hq (fun H locs ls rest i j _ _ k => lv_iushr C.1 C.2.1 hd rfl k) k
  · exact ai_nlad_ok C hn hd hq k
  · exact ai_n2l_ok ai_lmul_ok hn hq (fun H locs ls rest i j _ k => lv_lmul C.1 C.2.1 hd k) k
  · exact ai_n2l_ok (ai_ltop_ok true _) hn hq (fun H locs ls rest i j h k => lv_ldiv C.1 C.2.1 hd (h rfl) k) k
  · exact ai_n2l_ok (ai_ltop_ok true _) hn hq (fun H locs ls rest i j h k => lv_lrem C.1 C.2.1 hd (h rfl) k) k
  · split at hq
    · split at hq
      · rename_i hc
        cases hq
        exact ai_Ji2l C hc hd (k _ (List.mem_singleton.mpr rfl))
      · cases hq
    · cases hq
  · split at hq
    · split at hq
      · rename_i hc
        cases hq
        exact ai_Jdup C hc hd (k _ (List.mem_singleton.mpr rfl))
      · cases hq
    · cases hq
  · split at hq
    · split at hq
      · rename_i hc
        cases hq
        exact ai_Jpop C hc hd (k _ (List.mem_singleton.mpr rfl))
      · cases hq
    · cases hq
  · split at hq
    · split at hq
      · rename_i hc
        cases hq
        exact ai_Jpop2 C hc hd (k _ (List.mem_singleton.mpr rfl))
      · cases hq
    · cases hq
  · split at hq
    · obtain ⟨w, h1, rfl⟩ := Option.map_eq_some_iff.mp hq
      exact ai_Ju (f := fun x => x.toInt8.toInt32) hn h1 (fun H locs ls rest i k => lv_i2b C.1 C.2.1 hd rfl k) (k _ (List.mem_singleton.mpr rfl))
    · cases hq
  · split at hq
    · obtain ⟨w, h1, rfl⟩ := Option.map_eq_some_iff.mp hq
      exact ai_Ju (f := fun x => x.toInt16.toInt32) hn h1 (fun H locs ls rest i k => lv_i2s C.1 C.2.1 hd rfl k) (k _ (List.mem_singleton.mpr rfl))
    · cases hq
  · split at hq
    · split at hq
      · rename_i hc
        cases hq
        exact ai_Jlcmp C hc.1 hc.2 hd (k _ (List.mem_singleton.mpr rfl))
      · cases hq
    · cases hq
  · split at hq
    · split at hq
      · rename_i hc
        cases hq
        exact ai_Jdup2 C hc.1 hc.2 hd (k _ (List.mem_singleton.mpr rfl))
      · cases hq
    · cases hq
  · exact ai_nb1_ok (op := 0) (fun i => i = 0) (fun i za zb h1 h2 => (ai_P1 i za zb h1 h2).1) hq (fun H locs ls rest i tgt ht a b => lv_if_eq C.1 C.2.1 hd ht a b) k
  · exact ai_nb2_ok (op := 0) (fun i j => i = j) (fun i j za zb h1 h2 => (ai_P2' i j za zb h1 h2).1) hq (fun H locs ls rest i j tgt ht a b => lv_icmp_eq C.1 C.2.1 hd ht a b) k
  · exact ai_nb1_ok (op := 1) (fun i => ¬ i = 0) (fun i za zb h1 h2 => ⟨(ai_P1 i za zb h1 h2).1.2, fun q => (ai_P1 i za zb h1 h2).1.1 (Decidable.not_not.mp q)⟩) hq (fun H locs ls rest i tgt ht a b => lv_if_ne C.1 C.2.1 hd ht a (fun q => b (fun q2 => q2 q))) k
  · exact ai_nb2_ok (op := 1) (fun i j => ¬ i = j) (fun i j za zb h1 h2 => ⟨(ai_P2' i j za zb h1 h2).1.2, fun q => (ai_P2' i j za zb h1 h2).1.1 (Decidable.not_not.mp q)⟩) hq (fun H locs ls rest i j tgt ht a b => lv_icmp_ne C.1 C.2.1 hd ht a (fun q => b (fun q2 => q2 q))) k
  · exact ai_nb1_ok (op := 2) (fun i => i < 0) (fun i za zb h1 h2 => (ai_P1 i za zb h1 h2).2.1) hq (fun H locs ls rest i tgt ht a b => lv_if_lt C.1 C.2.1 hd ht a b) k
  · exact ai_nb2_ok (op := 2) (fun i j => i < j) (fun i j za zb h1 h2 => (ai_P2' i j za zb h1 h2).2.1) hq (fun H locs ls rest i j tgt ht a b => lv_icmp_lt C.1 C.2.1 hd ht a b) k
  · exact ai_nb1_ok (op := 3) (fun i => 0 ≤ i) (fun i za zb h1 h2 => (ai_P1 i za zb h1 h2).2.2.2.1) hq (fun H locs ls rest i tgt ht a b => lv_if_ge C.1 C.2.1 hd ht a b) k
  · exact ai_nb2_ok (op := 3) (fun i j => j ≤ i) (fun i j za zb h1 h2 => (ai_P2' i j za zb h1 h2).2.2.2.1) hq (fun H locs ls rest i j tgt ht a b => lv_icmp_ge C.1 C.2.1 hd ht a b) k
  · exact ai_nb1_ok (op := 4) (fun i => 0 < i) (fun i za zb h1 h2 => (ai_P1 i za zb h1 h2).2.2.1) hq (fun H locs ls rest i tgt ht a b => lv_if_gt C.1 C.2.1 hd ht a b) k
  · exact ai_nb2_ok (op := 4) (fun i j => j < i) (fun i j za zb h1 h2 => (ai_P2' i j za zb h1 h2).2.2.1) hq (fun H locs ls rest i j tgt ht a b => lv_icmp_gt C.1 C.2.1 hd ht a b) k
  · exact ai_nb1_ok (op := 5) (fun i => i ≤ 0) (fun i za zb h1 h2 => (ai_P1 i za zb h1 h2).2.2.2.2) hq (fun H locs ls rest i tgt ht a b => lv_if_le C.1 C.2.1 hd ht a b) k
  · exact ai_nb2_ok (op := 5) (fun i j => i ≤ j) (fun i j za zb h1 h2 => (ai_P2' i j za zb h1 h2).2.2.2.2) hq (fun H locs ls rest i j tgt ht a b => lv_icmp_le C.1 C.2.1 hd ht a b) k
  · obtain ⟨t, h1, rfl⟩ := Option.map_eq_some_iff.mp hq
    exact ai_Jgoto C (ai_tg_ok h1) hd (k _ (List.mem_singleton.mpr rfl))
  · exact ai_nlk_ok C hz hd hq k
  · split at hq
    · split at hq
      · rename_i hc
        obtain ⟨c1, c2, c3, c4⟩ := hc
        cases hq
        refine ai_Jtab C hz c1 hd c2 ⟨c3, fun o ho => by simpa using List.all_eq_true.mp c4 o ho⟩ (fun j off hj st hs => k st (List.mem_append_right _ (List.mem_append_right _ (List.mem_flatMap.mpr ⟨j, List.mem_range.mpr (List.getElem?_eq_some_iff.mp hj).1, by rw [hj]; exact List.mem_flatMap.mpr ⟨off, List.mem_singleton.mpr rfl, hs⟩⟩)))) (fun st hs => k st (List.mem_append_left _ hs)) (fun st hs => k st (List.mem_append_right _ (List.mem_append_left _ hs)))
      · cases hq
    · cases hq
  · split at hq
    · obtain ⟨q, h1, hq⟩ := Option.bind_eq_some_iff.mp hq
      have h2 := List.find?_some h1
      have h2 := ai_beq.mp h2
      have h3 := hM.2.1 q (List.mem_of_find?_eq_some h1)
      rw [h2] at h3
      split at hq
      · rename_i hc
        obtain ⟨w, h4, rfl⟩ := Option.map_eq_some_iff.mp hq
        exact ai_Jget C hn hc h4 h3 hd (k _ (List.mem_singleton.mpr rfl))
      · cases hq
    · cases hq
  · split at hq
    · obtain ⟨q, h1, hq⟩ := Option.bind_eq_some_iff.mp hq
      have h2 := List.find?_some h1
      have h2 := ai_beq.mp h2
      have h3 := hM.2.2.1 q (List.mem_of_find?_eq_some h1)
      rw [h2] at h3
      split at hq
      · rename_i hc
        obtain ⟨w, h4, rfl⟩ := Option.map_eq_some_iff.mp hq
        exact ai_Jput C hc.1 h4 (fun kd hkd => by rw [hc.2] at hkd; cases hkd; exact h3) hd (k _ (List.mem_singleton.mpr rfl))
      · cases hq
    · cases hq
  · split at hq
    · split at hq
      · rename_i hc
        obtain ⟨w, h4, rfl⟩ := Option.map_eq_some_iff.mp hq
        exact ai_Jald C (tg := 1) (Or.inl rfl) hn hc h4 hd (k _ (List.mem_singleton.mpr rfl))
      · split at hq
        · rename_i hc
          cases hq
          exact ai_Jscr C hc.2.1 hc.1 hc.2.2 hd (k _ (List.mem_singleton.mpr rfl))
        · cases hq
    · cases hq
  · split at hq
    · split at hq
      · rename_i hc
        obtain ⟨w, h4, rfl⟩ := Option.map_eq_some_iff.mp hq
        exact ai_Jald C (tg := 2) (Or.inr rfl) hn hc h4 hd (k _ (List.mem_singleton.mpr rfl))
      · cases hq
    · cases hq
  · split at hq
    · split at hq
      · rename_i hc
        obtain ⟨w, h4, rfl⟩ := Option.map_eq_some_iff.mp hq
        exact ai_Jast C (tg := 1) (Or.inl rfl) hc h4 hd (k _ (List.mem_singleton.mpr rfl))
      · cases hq
    · cases hq
  · split at hq
    · split at hq
      · rename_i hc
        obtain ⟨w, h4, rfl⟩ := Option.map_eq_some_iff.mp hq
        exact ai_Jast C (tg := 2) (Or.inr rfl) hc h4 hd (k _ (List.mem_singleton.mpr rfl))
      · cases hq
    · cases hq
  · split at hq
    · split at hq
      · rename_i hc
        cases hq
        exact ai_Jlald C hn hc.1 hc.2 hd (k _ (List.mem_singleton.mpr rfl))
      · cases hq
    · cases hq
  · split at hq
    · split at hq
      · rename_i hc
        cases hq
        exact ai_Jlast C hc.1 hc.2.1 hc.2.2 hd (k _ (List.mem_singleton.mpr rfl))
      · cases hq
    · cases hq
  · split at hq
    · obtain ⟨t, h1, hq⟩ := Option.bind_eq_some_iff.mp hq
      obtain ⟨w, h2, hq⟩ := Option.bind_eq_some_iff.mp hq
      split at hq
      · rename_i hc
        cases hq
        exact ai_Jaald C hc.1 h1 hc.2.1 h2 hc.2.2 hd (fun q hq => k _ (List.mem_map.mpr ⟨q, hq, rfl⟩))
      · cases hq
    · cases hq
  · split at hq
    · obtain ⟨t, h1, hq⟩ := Option.bind_eq_some_iff.mp hq
      split at hq
      · rename_i hc
        cases hq
        exact ai_Jlen C hz hc.1 h1 hc.2.1 hc.2.2 hd (k _ (List.mem_singleton.mpr rfl))
      · cases hq
    · cases hq
  · cases hq
end AIX
end
section
/-! calls: a method's walk gives its contract -/
def ai_args : Nat → List ai_v → List (Nat × ai_v)
  | _, [] => []
  | i, v :: vs => (i, v) :: ai_args (if v.1 = 2 then i + 2 else i + 1) vs
def ai_wd1 (v : ai_v) : Nat := if v.1 = 2 then 2 else 1
theorem ai_args_ok {ad : List Nat} {b : Nat} {r : List Int} : ∀ {vs : List ai_v} {ys : List Value} (i : Nat), ai_sk ad b r vs ys → ai_lo ad b r (ai_args i vs) (lv_args i ys)
  | [], [], _, _ => trivial
  | [], _ :: _, _, h => h.elim
  | _ :: _, [], _, h => h.elim
  | v :: vs, y :: ys, i, h => by
    refine ⟨rfl, h.1, ?_⟩
    have e : (if y.category = 2 then i + 2 else i + 1) = if v.1 = 2 then i + 2 else i + 1 := by
      rw [h.1.cat]
      by_cases hv : v.1 = 2
      · rw [if_pos hv, if_pos hv, if_pos rfl]
      · rw [if_neg hv, if_neg hv, if_neg (by decide)]
    rw [e]
    exact ai_args_ok _ h.2
theorem ai_words {ad : List Nat} {b : Nat} {r : List Int} : ∀ {vs : List ai_v} {ys : List Value}, ai_sk ad b r vs ys → (lg_sl ys).length = (vs.map ai_wd1).sum
  | [], [], _ => rfl
  | [], _ :: _, h => h.elim
  | _ :: _, [], h => h.elim
  | v :: vs, y :: ys, h => by
    have ih := ai_words h.2
    unfold lg_sl at ih ⊢
    rw [List.flatMap_cons, List.length_append, ih, List.map_cons, List.sum_cons, h.1.cat]
    unfold ai_wd1
    by_cases hv : v.1 = 2
    · rw [if_pos hv, if_pos rfl]; rfl
    · rw [if_neg hv, if_neg (by decide)]; rfl
theorem ai_sk.app {ad : List Nat} {b : Nat} {r : List Int} : ∀ {vs us : List ai_v} {zs : List Value}, ai_sk ad b r (vs ++ us) zs → ∃ xs ys, zs = xs ++ ys ∧ ai_sk ad b r vs xs ∧ ai_sk ad b r us ys
  | [], _, zs, h => ⟨[], zs, rfl, trivial, h⟩
  | v :: vs, us, [], h => h.elim
  | v :: vs, us, z :: zs, h => by
    obtain ⟨xs, ys, rfl, h1, h2⟩ := ai_sk.app (vs := vs) h.2
    exact ⟨z :: xs, ys, rfl, ⟨h.1, h1⟩, h2⟩
theorem ai_sk.join {ad : List Nat} {b : Nat} {r : List Int} : ∀ {vs us : List ai_v} {xs ys : List Value}, ai_sk ad b r vs xs → ai_sk ad b r us ys → ai_sk ad b r (vs ++ us) (xs ++ ys)
  | [], _, [], _, _, h => h
  | [], _, _ :: _, _, h, _ => h.elim
  | _ :: _, _, [], _, h, _ => h.elim
  | _ :: _, _, _ :: _, _, h, k => ⟨h.1, ai_sk.join h.2 k⟩
theorem ai_sk.rev {ad : List Nat} {b : Nat} {r : List Int} : ∀ {vs : List ai_v} {xs : List Value}, ai_sk ad b r vs xs → ai_sk ad b r vs.reverse xs.reverse
  | [], [], _ => trivial
  | [], _ :: _, h => h.elim
  | _ :: _, [], h => h.elim
  | v :: vs, x :: xs, h => by
    rw [List.reverse_cons, List.reverse_cons]
    exact (ai_sk.rev h.2).join ⟨h.1, trivial⟩
theorem ai_sk.len {ad : List Nat} {b : Nat} {r : List Int} : ∀ {vs : List ai_v} {xs : List Value}, ai_sk ad b r vs xs → xs.length = vs.length
  | [], [], _ => rfl
  | [], _ :: _, h => h.elim
  | _ :: _, [], h => h.elim
  | v :: vs, x :: xs, h => by rw [List.length_cons, List.length_cons, ai_sk.len h.2]
def ai_rm (d : Nat) : Room := { frames := d, cells := 0, slots := 0, locals := 36 * d }
def ai_ws (M : ai_m) : List Cond := Cond.code M.1 M.2.1 M.2.2.1 M.2.2.2.1 :: ai_GT
/-- a walk's end at an instruction that returns -/
def ai_rt (M : ai_m) (x : ai_s) : Bool := match (M.2.2.2.2.2.1.find? fun q => Nat.beq q.1 x.1) with
  | some (_, ins, len) => (match ins, len, M.2.2.2.1, x.2.2.1 with
    | .return_, 1, none, [] => true
    | .ireturn, 1, some .int, [v] => ai_tI v.1
    | .ireturn, 1, some .boolean, [v] => (ai_i x.2.2.2.1 v).any fun p => decide (0 ≤ p.1) && decide (p.2 ≤ 1)
    | .lreturn, 1, some .long, [v] => ai_tL v.1
    | .areturn, 1, some (.object _), [v] => ai_tA v.1
    | _, _, _, _ => false)
  | none => false
def ai_Qc (TY : List ai_c) (WR : List (Nat × Nat × Nat)) (w0 : va_W) (ad : List Nat) (b L : Nat) (sx : Nat → Int32) (tys : ai_ty) (D : va_G) (A : Nat → Prop) (r : List Int) (xs : List ai_s) : Array Value → State → Outcome → State → Prop := fun _ st oc t =>
  (∃ x ∈ xs, ∃ (r' : List Int) (lv : List (Nat × Value)) (sk : List Value) (ws : va_W), ai_x r r' ∧ ai_gm TY WR w0 ad b L sx tys false r' x lv sk ws ∧ va_P D vwCl ws t.heap ∧ va_D A ws ∧ oc = .returned sk.head?) ∧ va_F A st t
abbrev ai_R : Type := Nat → ai_m → Nat → List Nat → ai_s → Option (List ai_s)
def ai_SR (TY : List ai_c) (WR : List (Nat × Nat × Nat)) (MT : List ai_m) (rec : ai_R) : Prop := ∀ (mid d : Nat) (cu : List Nat) (st : ai_s) (xs : List ai_s) (M : ai_m), rec mid M d cu st = some xs → MT[mid]? = some M →
  ∀ {w0 : va_W} {ad : List Nat} {p : Program} {l : Launch} {e : Env} {R : Room} {s : State} {m : MethodId} {args : Array Value} {below : List Frame} {meth : Method} {c : Code} {D : va_G} {tys : ai_ty} {A : Nat → Prop} {b L : Nat} {sx : Nat → Int32} {cells slots : Nat} {Q : State → Prop} {r0 : List Int},
    ai_cx M d p R s m args c D tys A b L sx cells slots → (∀ x ∈ xs, ai_G TY WR w0 ad M p l e R s m args below meth c D tys A b L sx cells slots Q r0 x) → ai_G TY WR w0 ad M p l e R s m args below meth c D tys A b L sx cells slots Q r0 st
theorem ai_NW_on : ∀ w ∈ ai_NW, ∃ a i y h, w = Cond.methodLinkNest a i y h := by
  intro w hw
  have h := (List.mem_filter.mp hw).2
  split at h
  · exact ⟨_, _, _, _, rfl⟩
  · cases h
theorem ai_goodGT : ∀ w ∈ ai_GT, goodWord w = true := fun w h => (List.mem_filter.mp h).2
theorem ai_goodIn {M : ai_m} (h : Cond.code M.1 M.2.1 M.2.2.1 M.2.2.2.1 ∈ ai_GT) : GoodIn ai_GT (ai_ws M) := fun w hw => by
  rcases List.mem_cons.mp hw with rfl | hw
  · exact ⟨h, good_of_word (ai_goodGT _ h)⟩
  · exact ⟨hw, good_of_word (ai_goodGT _ hw)⟩
section AIC
variable {TY : List ai_c} {WR : List (Nat × Nat × Nat)} {w0 : va_W} {ad : List Nat} {M : ai_m} {d : Nat} {p : Program} {l : Launch} {e : Env} {R : Room} {s : State} {m : MethodId} {args : Array Value} {below : List Frame} {meth : Method} {c : Code} {D : va_G} {tys : ai_ty} {A : Nat → Prop} {b L : Nat} {sx : Nat → Int32} {cells slots : Nat} {Q : State → Prop} {r0 : List Int} {pc pc' : Nat} {lo : List (Nat × ai_v)} {sk : List ai_v} {en en' : List ai_e} {kn kn' : List ai_k} {sb sb' : List ai_b} {x y v : ai_v} {ss : List ai_s}
theorem ai_ret {Qc : Array Value → State → Outcome → State → Prop} {z : ai_s} (C : ai_cx M d p R s m args c D tys A b L sx 0 0) (hM : ai_mok M) (hr : meth.sig.returnType = M.2.2.2.1) (hlocks : meth.locks = false) (hx : ai_rt M z = true)
    (hQ : ∀ (r : List Int) (lv : List (Nat × Value)) (sk : List Value) (ws : va_W) (t : State), ai_x r0 r → ai_gm TY WR w0 ad b L sx tys M.2.2.2.2.1 r z lv sk ws → va_P D vwCl ws t.heap → va_D A ws → va_F A s t → Qc args s (.returned sk.head?) t) :
    ai_G TY WR w0 ad M p l e R s m args below meth c D tys A b L sx 0 0 (MQ below Qc args s 0 0 A) r0 z := by
  intro r lv skc ws H locs ls hxx g hP hD hS hl
  have key : ∀ t : State, t.heap = H → Qc args s (.returned skc.head?) t := fun t ht => hQ r lv skc ws t hxx g (by rw [ht]; exact hP) hD (hS.F ht)
  obtain ⟨g1, g2, g3, g4, g5, g6, g7, g8⟩ := g
  unfold ai_rt at hx
  split at hx
  · rename_i pcq ins len hq
    have h2 := List.find?_some hq
    have h2 := ai_beq.mp h2
    have hd := hM.1 _ (List.mem_of_find?_eq_some hq)
    dsimp only at hd h2
    rw [h2] at hd
    split at hx
    · rename_i h3 h4
      rw [h4] at g4
      cases g4.nil
      exact W.vret C.1 C.2.1 (hr.trans h3) (fun t ht hW => key t ht) hS.2.2 hd hlocks
    · rename_i v h3 h4
      rw [h4] at g4
      obtain ⟨w, s1, hw, dw, k5⟩ := g4.cons
      have hs1 := k5.nil
      subst hs1
      subst hw
      obtain ⟨i, rfl⟩ := ai_isI dw hx
      exact W.iret C.1 C.2.1 (hr.trans h3) (fun t ht hW => key t ht) hS.2.2 hd hlocks
    · rename_i v h3 h4
      rw [h4] at g4
      obtain ⟨w, s1, hw, dw, k5⟩ := g4.cons
      have hs1 := k5.nil
      subst hs1
      subst hw
      obtain ⟨q, hq1, hq2⟩ : ∃ q, ai_i z.2.2.2.1 v = some q ∧ (decide (0 ≤ q.1) && decide (q.2 ≤ 1)) = true := by
        cases hi : ai_i z.2.2.2.1 v with
        | none =>
          rw [hi] at hx
          cases hx
        | some q =>
          rw [hi] at hx
          exact ⟨q, rfl, hx⟩
      simp only [Bool.and_eq_true, decide_eq_true_eq] at hq2
      obtain ⟨-, zz, i, -, rfl, -, i1, i2⟩ := ai_i_ok g1 dw hq1
      have hi : i = 0 ∨ i = 1 := by
        by_cases h0 : i.toInt = 0
        · exact Or.inl (Int32.toInt_inj.mp (by rw [h0]; rfl))
        · exact Or.inr (Int32.toInt_inj.mp (by show i.toInt = 1; omega))
      exact W.zret C.1 C.2.1 (hr.trans h3) (by rcases hi with rfl | rfl <;> rfl) (fun t ht hW => key t ht) hS.2.2 hd hlocks
    · rename_i v h3 h4
      rw [h4] at g4
      obtain ⟨w, s1, hw, dw, k5⟩ := g4.cons
      have hs1 := k5.nil
      subst hs1
      subst hw
      obtain ⟨i, rfl⟩ := ai_isL dw hx
      exact W.lret C.1 C.2.1 (hr.trans h3) (fun t ht hW => key t ht) hS.2.2 hd hlocks
    · rename_i n v h3 h4
      rw [h4] at g4
      obtain ⟨w, s1, hw, dw, k5⟩ := g4.cons
      have hs1 := k5.nil
      subst hs1
      subst hw
      obtain ⟨a, rfl⟩ := ai_isA dw hx
      exact W.aret C.1 C.2.1 (hr.trans h3) (Or.inl ⟨_, rfl⟩) (Or.inr ⟨a, rfl⟩) (fun t ht hW => key t ht) hS.2.2 hd hlocks
    · cases hx
  · cases hx
/-- the contract of a method out of a walk of it -/
theorem ai_met {MT : List ai_m} {rec : ai_R} (hS : ai_SR TY WR MT rec) (hMT : ∀ M ∈ MT, ai_mok M ∧ plainName M.1.cls = true) {mid d' : Nat} {M' : ai_m} {fa : List ai_v} {xs : List ai_s} (hM' : MT[mid]? = some M') (hsc : M'.2.2.2.2.1 = false)
    (hrec : rec mid M' d' [] (0, ai_args 0 fa, [], en, kn, sb) = some xs) (hrt : ∀ x ∈ xs, ai_rt M' x = true) (hw : (fa.map ai_wd1).sum ≤ M'.2.2.1) {ws : va_W} {H : Heap} {vals : List Value} {r : List Int} (g1 : ai_ok r en) (g2 : ai_sb w0 r sb) (g4 : ai_sk ad b r fa vals) (g5 : ai_wd TY ad tys ws) (g6 : ai_kn ad b r ws kn) (g7 : ai_fr WR w0 ws) (hP : va_P D vwCl ws H) (hD : va_D A ws) (hA : ∀ q, H.size ≤ q → A q) (l : Launch) :
    Met l M'.1 (ai_ws M') (ai_rm d') (va_Pc vals (fun U => U.heap = H ∧ va_K D vwCl tys U ∧ ai_nj A U)) (ai_Qc TY WR w0 ad b L sx tys D A r xs) 0 0 A := by
  obtain ⟨hok, hpl⟩ := hMT M' (List.mem_of_getElem? hM')
  refine Met.ofW (cc := M'.2.1) (maxL := M'.2.2.1) (ret := M'.2.2.2.1) hpl rfl ?_
  intro p e s m args below meth c s₁ B hml hv
  obtain ⟨rfl, hH, hK, hN⟩ := hv
  have hts := atoms_spec (ws := ai_ws M') B.pre
  have hown : s.vm.findClass M'.1.cls = some m.cls := findClass_of_methodNamed B.named
  have C : ai_cx M' d' p (headSpec (ai_ws M') (ai_rm d')).room s m vals.toArray c D tys A b L sx 0 0 :=
    ⟨B.exec, B.bytes, hml, hown, fun w h => hts w (List.mem_cons_of_mem _ h), hN, hK, fun q hq => hA q (by rw [← hH]; exact hq), ⟨Nat.le_refl _, Nat.le_refl _, Nat.zero_le _, Nat.zero_le _⟩, fun h => by rw [hsc] at h; cases h⟩
  have hl := lv_entry vals (n := M'.2.2.1) (by rw [ai_words g4]; exact hw)
  rw [lg_entry_eq]
  have G := hS mid d' [] _ xs M' hrec hM' (w0 := w0) (ad := ad) (l := l) (e := e) (below := below) (meth := meth) (Q := MQ below (ai_Qc TY WR w0 ad b L sx tys D A r xs) vals.toArray s 0 0 A) (r0 := r) C (fun x hx => ai_ret C hok B.returns B.notSynchronized (hrt x hx) (fun r' lv sk ws' t e1 e2 e3 e4 e5 => ⟨⟨x, hx, r', lv, sk, ws', e1, by rw [hsc] at e2; exact e2, e3, e4, rfl⟩, e5⟩))
  have hh : s.heap = H := hH
  exact G r (lv_args 0 vals) [] ws s.heap [] _ ai_x.rf ⟨g1, g2, ai_args_ok 0 g4, trivial, g5, g6, g7, fun h => by rw [hsc] at h; cases h⟩ (by rw [hh]; exact hP) hD va_S.rf hl
theorem ai_callW {Qa : State → Outcome → State → Prop} {free : Addr → Prop} {H : Heap} {locs : List Loc} {g : JFrame} {rest : List Value} (hr : va_Run p l e R s m args below meth c H locs cells slots 0 0 g rest Qa free)
    (kk : ∀ (v : Option Value) (st₀ t : State) (L : List Loc), st₀.heap = H → (∀ q ∈ L, free q.base) → Qa st₀ (.returned v) t → W p l e R s m args below meth c t.heap (locs ++ L) cells slots Q { g with pc := g.pc + 3, stack := v.toList ++ rest }) : W p l e R s m args below meth c H locs cells slots Q g := by
  intro T hT X
  obtain ⟨v, st₀, t, T', L, h0, X', hL, e1, -, hq, st⟩ := hr T hT X
  obtain ⟨t2, a1, b1⟩ := kk v st₀ t L h0 hL hq T' e1 X'
  exact ⟨t2, st t2 a1, b1⟩
theorem ai_SF {H0 H : Heap} {locs L : List Loc} {st t : State} (hS : va_S A H0 H locs) (h0 : st.heap = H) (hF : va_F A st t) (hL : ∀ q ∈ L, A q.base) : va_S A H0 t.heap (locs ++ L) := by
  obtain ⟨h1, h2, h3⟩ := hS
  obtain ⟨f1, f2⟩ := hF
  rw [h0] at f1 f2
  refine ⟨Nat.le_trans h1 f1, fun q hq hA => ?_, fun q hq => ?_⟩
  · rw [f2 q (Nat.lt_of_lt_of_le hq h1) hA]
    exact h2 q hq hA
  · rcases List.mem_append.mp hq with h | h
    · exact h3 q h
    · exact hL q h
/-- what comes back from a call goes on -/
def ai_bk (pc' : Nat) (lo : List (Nat × ai_v)) (k : List ai_v) (x : ai_s) : ai_s := (pc', lo, x.2.2.1 ++ k, x.2.2.2.1, x.2.2.2.2.1, x.2.2.2.2.2)
theorem ai_rt_short {M' : ai_m} {z : ai_s} {r : List Int} {sk : List Value} (h : ai_rt M' z = true) (g4 : ai_sk ad b r z.2.2.1 sk) : sk.head?.toList = sk := by
  have hl := g4.len
  have : z.2.2.1.length ≤ 1 := by
    unfold ai_rt at h
    split at h
    · split at h
      · rename_i h3 h4
        rw [h3]
        exact Nat.zero_le _
      · rename_i v h3 h4
        rw [h3]
        exact Nat.le_refl _
      · rename_i v h3 h4
        rw [h3]
        exact Nat.le_refl _
      · rename_i v h3 h4
        rw [h3]
        exact Nat.le_refl _
      · rename_i n v h3 h4
        rw [h3]
        exact Nat.le_refl _
      · cases h
    · cases h
  cases sk with
  | nil => rfl
  | cons x t => cases t with
    | nil => rfl
    | cons y t2 =>
      simp at hl
      omega
theorem ai_nj.same {s U : State} (hv : U.vm = s.vm) (hh : U.heap = s.heap) (h : ai_nj A s) : ai_nj A U := by
  obtain ⟨h1, aK, aV, h2⟩ := h
  refine ⟨fun w hw => ?_, aK, aV, h2.same hv hh⟩
  obtain ⟨a1, i1, y1, g1, rfl⟩ := ai_NW_on w hw
  exact va_Nw.same (u := s) rfl hv.symm (h1 _ hw)
theorem ai_nj.moved {s U : State} {locs : List Loc} (hW : s.WarmedH U.vm) (hS : va_S A s.heap U.heap locs) (h : ai_nj A s) : ai_nj A U := by
  obtain ⟨h1, aK, aV, h2⟩ := h
  refine ⟨fun w hw => ?_, aK, aV, h2.moved hW hS⟩
  obtain ⟨a1, i1, y1, g1, rfl⟩ := ai_NW_on w hw
  exact va_Nw.warmM hW (h1 _ hw)
theorem ai_PcB {vals : List Value} {H : Heap} : FrameBlind (va_Pc vals (fun U => U.heap = H ∧ va_K D vwCl tys U ∧ ai_nj A U)) := fun a U g mk q => by
  obtain ⟨q0, q1, qK, qN⟩ := q
  exact ⟨q0, q1, va_K.moved (u := U) (U := U.calling g mk a) (Vm.Alike.refl U.vm) qK, ai_nj.same (s := U) (U := U.calling g mk a) rfl rfl qN⟩
theorem ai_PcW (C : ai_cx M d p R s m args c D tys A b L sx cells slots) {vals : List Value} {H : Heap} {locs : List Loc} (hS : va_S A s.heap H locs) : ∀ U : State, U.heap = H → s.WarmedH U.vm → va_Pc vals (fun U => U.heap = H ∧ va_K D vwCl tys U ∧ ai_nj A U) vals.toArray U := fun U hU hW =>
  ⟨rfl, hU, va_K.moved hW.alike C.2.2.2.2.2.2.1, C.2.2.2.2.2.1.moved hW (by rw [hU]; exact hS)⟩
end AIC
end
section
/-! loops: a state that holds at every round -/
def ai_ge (en : List ai_e) (b : Nat) (p : Int) : Nat → Nat → Int → Bool
  | 0, _, _ => false
  | k + 1, a, o => (decide (a = b) && decide (p ≤ o)) || (match en[a]? with
    | some e => ai_ge en b p k e.2.2.2.1 (e.2.2.2.2 + o)
    | none => false)
theorem ai_ge_ok {r : List Int} {en : List ai_e} {b : Nat} {p w : Int} (h : ai_ok r en) (hb : r[b]? = some w) : ∀ {k a : Nat} {o z : Int}, r[a]? = some z → ai_ge en b p k a o = true → w + p ≤ z + o
  | 0, _, _, _, _, hg => by cases hg
  | k + 1, a, o, z, ha, hg => by
    have hg : ((decide (a = b) && decide (p ≤ o)) || (match en[a]? with | some e => ai_ge en b p k e.2.2.2.1 (e.2.2.2.2 + o) | none => false)) = true := hg
    rw [Bool.or_eq_true] at hg
    rcases hg with hg | hg
    · simp only [Bool.and_eq_true, decide_eq_true_eq] at hg
      obtain ⟨rfl, h2⟩ := hg
      rw [ha] at hb
      cases hb
      omega
    · obtain ⟨e, he, -, -, -, w', h4, h5⟩ := h.get ha
      rw [he] at hg
      have := ai_ge_ok h hb h4 hg
      omega
/-- what is forgotten at a loop's head: a local (0, its number, -) or a place (1, cell, place), with bounds: least, greatest, not 0, the name that it isn't below, by how much -/
abbrev ai_h : Type := Nat × Nat × Nat × Int × Int × Bool × Nat × Int
def ai_en (h : ai_h) : ai_e := (h.2.2.2.1, h.2.2.2.2.1, h.2.2.2.2.2.1, h.2.2.2.2.2.2.1, h.2.2.2.2.2.2.2)
def ai_pv (st : ai_s) (h : ai_h) : Option ai_v := if h.1 = 0 then ai_get st.2.1 h.2.1 else ai_lk st.2.2.2.2.1 h.2.1 h.2.2.1
/-- the bounds of an int or of a long -/
def ai_il2 (en : List ai_e) (v : ai_v) : Option (Int × Int) := if v.1 = 1 ∨ v.1 = 2 then (en[v.2.1]?).map fun e => (e.1 + v.2.2.2, e.2.1 + v.2.2.2) else none
theorem ai_il2_ok {ad : List Nat} {b : Nat} {r : List Int} {en : List ai_e} {v : ai_v} {x : Value} {p : Int × Int} (h : ai_ok r en) (hv : ai_dv ad b r v x) (hp : ai_il2 en v = some p) : ∃ z : Int, r[v.2.1]? = some z ∧ p.1 ≤ z + v.2.2.2 ∧ z + v.2.2.2 ≤ p.2 := by
  unfold ai_il2 at hp
  split at hp
  · rename_i h1
    obtain ⟨e, he, rfl⟩ := Option.map_eq_some_iff.mp hp
    obtain ⟨z, hz, h2⟩ := h.name he
    have a1 := h2.1
    have a2 := h2.2.1
    refine ⟨z, hz, ?_, ?_⟩
    · show e.1 + v.2.2.2 ≤ _
      omega
    · show _ ≤ e.2.1 + v.2.2.2
      omega
  · cases hp
def ai_it (n0 : Nat) (st : ai_s) (j : Nat) (h : ai_h) : Bool := match ai_pv st h with
  | some v => (match ai_il2 st.2.2.2.1 v with
    | some p => decide (h.2.2.2.1 ≤ p.1) && decide (p.2 ≤ h.2.2.2.2.1) && (!h.2.2.2.2.2.1 || decide (0 < p.1) || decide (p.2 < 0)) && ((decide (h.2.2.2.2.2.2.1 = n0 + j) && decide (h.2.2.2.2.2.2.2 = 0)) || (decide (h.2.2.2.2.2.2.1 < n0) && ai_ge st.2.2.2.1 h.2.2.2.2.2.2.1 h.2.2.2.2.2.2.2 12 v.2.1 v.2.2.2))
    | none => false)
  | none => false
/-- a value of the head's state, and the one that comes -/
def ai_ck (n0 : Nat) (hs : List ai_h) (k a i : Nat) (v : ai_v) (w : Option ai_v) : Bool :=
  if v.1 = 0 ∨ v.1 = 4 ∨ (v.2.1 < n0 ∧ v.2.2.1 < n0) then decide (w = some v)
  else (w.any fun v1 => decide (v1.1 = v.1)) && decide (v.1 = 1 ∨ v.1 = 2) && decide (v.2.2.2 = 0) && decide (n0 ≤ v.2.1) && (match hs[v.2.1 - n0]? with
    | some h => decide (h.1 = k) && decide (h.2.1 = a) && decide (k = 0 ∨ h.2.2.1 = i)
    | none => false)
def ai_lq (n0 : Nat) (hs : List ai_h) (I st : ai_s) : Bool :=
  (st.2.2.1.isEmpty) && ((List.range hs.length).all fun j => (hs[j]?).all fun h => ai_it n0 st j h) && (I.2.1.all fun q => ai_ck n0 hs 0 q.1 0 q.2 (ai_get st.2.1 q.1)) && (I.2.2.2.2.1.all fun q => ai_ck n0 hs 1 q.1 q.2.1 q.2.2 (ai_lk st.2.2.2.2.1 q.1 q.2.1))
theorem ai_dv_low {ad : List Nat} {b : Nat} {r t u : List Int} {v : ai_v} {x : Value} (h : ai_dv ad b (r ++ t) v x) (hv : v.1 = 0 ∨ v.1 = 4 ∨ (v.2.1 < r.length ∧ v.2.2.1 < r.length)) : ai_dv ad b (r ++ u) v x := by
  rcases h with h | ⟨h, z, i, h1, h2⟩ | ⟨h, z, i, h1, h2⟩ | ⟨h, z, w, i, h1, h2, h3⟩ | h
  · exact Or.inl h
  · rcases hv with q | q | ⟨q, -⟩
    · omega
    · omega
    · rw [List.getElem?_append_left q] at h1
      exact Or.inr (Or.inl ⟨h, z, i, by rw [List.getElem?_append_left q]; exact h1, h2⟩)
  · rcases hv with q | q | ⟨q, -⟩
    · omega
    · omega
    · rw [List.getElem?_append_left q] at h1
      exact Or.inr (Or.inr (Or.inl ⟨h, z, i, by rw [List.getElem?_append_left q]; exact h1, h2⟩))
  · rcases hv with q | q | ⟨q, q2⟩
    · omega
    · omega
    · rw [List.getElem?_append_left q] at h1
      rw [List.getElem?_append_left q2] at h2
      exact Or.inr (Or.inr (Or.inr (Or.inl ⟨h, z, w, i, by rw [List.getElem?_append_left q]; exact h1, by rw [List.getElem?_append_left q2]; exact h2, h3⟩)))
  · exact Or.inr (Or.inr (Or.inr (Or.inr h)))
/-- the values of the forgotten places -/
theorem ai_vals {ad : List Nat} {b : Nat} {r : List Int} {st : ai_s} {P : Nat → ai_h → Int → Prop} (f : ∀ (j : Nat) (h : ai_h), ∃ z, P j h z) : ∀ (hs : List ai_h) (k : Nat), ∃ vs : List Int, vs.length = hs.length ∧ ∀ (j : Nat) (h : ai_h) (z : Int), hs[j]? = some h → vs[j]? = some z → P (k + j) h z
  | [], k => ⟨[], rfl, fun j h z h1 => by simp at h1⟩
  | h :: t, k => by
    obtain ⟨vs, h1, h2⟩ := ai_vals (ad := ad) (b := b) (r := r) (st := st) f t (k + 1)
    obtain ⟨z, hz⟩ := f k h
    refine ⟨z :: vs, by simp [h1], fun j h' z' a1 a2 => ?_⟩
    cases j with
    | zero =>
      cases a1
      cases a2
      exact hz
    | succ j =>
      have := h2 j h' z' (by simpa using a1) (by simpa using a2)
      rw [show k + (j + 1) = k + 1 + j by omega]
      exact this
section AIL
variable {TY : List ai_c} {WR : List (Nat × Nat × Nat)} {w0 : va_W} {ad : List Nat} {M : ai_m} {d : Nat} {p : Program} {l : Launch} {e : Env} {R : Room} {s : State} {m : MethodId} {args : Array Value} {below : List Frame} {meth : Method} {c : Code} {D : va_G} {tys : ai_ty} {A : Nat → Prop} {b L : Nat} {sx : Nat → Int32} {cells slots : Nat} {Q : State → Prop} {r0 : List Int} {pc pc' : Nat} {lo : List (Nat × ai_v)} {sk : List ai_v} {en en' : List ai_e} {kn kn' : List ai_k} {sb sb' : List ai_b} {x y v : ai_v} {ss : List ai_s}
/-- the value at a forgotten place of a state that stands for lv, ws -/
def ai_pz (ad : List Nat) (b : Nat) (r : List Int) (st : ai_s) (lv : List (Nat × Value)) (ws : va_W) (h : ai_h) (z : Int) : Prop := ∀ v, ai_pv st h = some v → ∀ p, ai_il2 st.2.2.2.1 v = some p → (∃ z0, r[v.2.1]? = some z0 ∧ z = z0 + v.2.2.2) ∧ p.1 ≤ z ∧ z ≤ p.2
theorem ai_lq_ok {n0 : Nat} {hs : List ai_h} {I st : ai_s} {r t : List Int} {lv : List (Nat × Value)} {skc : List Value} {ws : va_W} {sc : Bool} (hI : I.2.2.2.1 = en ++ hs.map ai_en) (hIk : I.2.2.1 = []) (h0 : ai_ok r en) (hn : en.length = n0) (h1n : 1 < n0) (h8 : sc = true → 8 ≤ n0) (hsb : ai_sb w0 r I.2.2.2.2.2) (g : ai_gm TY WR w0 ad b L sx tys sc (r ++ t) st lv skc ws) (hq : ai_lq n0 hs I st = true) :
    ∃ (vs : List Int) (lv' : List (Nat × Value)), vs.length = hs.length ∧ ai_gm TY WR w0 ad b L sx tys sc (r ++ vs) I lv' [] ws ∧ skc = [] ∧ (∀ q ∈ lv', q ∈ lv) ∧ ∀ (j : Nat) (h : ai_h) (z : Int), hs[j]? = some h → vs[j]? = some z → ai_pz ad b (r ++ t) st lv ws h z := by
  obtain ⟨g1, g2, g3, g4, g5, g6, g7, g8⟩ := g
  unfold ai_lq at hq
  simp only [Bool.and_eq_true] at hq
  obtain ⟨⟨⟨q1, q2⟩, q3⟩, q4⟩ := hq
  have hr : r.length = n0 := by rw [h0.1]; exact hn
  have hsk : st.2.2.1 = [] := List.isEmpty_iff.mp q1
  rw [hsk] at g4
  have hskc := g4.nil
  -- each place has a value
  have hex : ∀ (v : ai_v) (p : Int × Int) (h : ai_h), ai_pv st h = some v → ai_il2 st.2.2.2.1 v = some p → ∃ z0 : Int, (r ++ t)[v.2.1]? = some z0 ∧ p.1 ≤ z0 + v.2.2.2 ∧ z0 + v.2.2.2 ≤ p.2 := fun v p h hv hp => by
    unfold ai_pv at hv
    split at hv
    · obtain ⟨k, x, k1, k2⟩ := ai_get_ok g3 hv
      exact ai_il2_ok g1 k2 hp
    · obtain ⟨x, k1, k2⟩ := ai_lk_ok g6 hv
      exact ai_il2_ok g1 k2 hp
  obtain ⟨vs, v1, v2⟩ := ai_vals (ad := ad) (b := b) (r := r) (st := st) (P := fun _ h z => ai_pz ad b (r ++ t) st lv ws h z) (fun j h => by
    cases hv : ai_pv st h with
    | none => exact ⟨0, fun v hv' => by rw [hv] at hv'; cases hv'⟩
    | some v =>
      cases hp : ai_il2 st.2.2.2.1 v with
      | none => exact ⟨0, fun v' hv' p hp' => by rw [hv] at hv'; cases hv'; rw [hp] at hp'; cases hp'⟩
      | some p =>
        obtain ⟨z0, i1, i3, i4⟩ := hex v p h hv hp
        exact ⟨z0 + v.2.2.2, fun v' hv' p' hp' => by rw [hv] at hv'; cases hv'; rw [hp] at hp'; cases hp'; exact ⟨⟨z0, i1, rfl⟩, i3, i4⟩⟩) hs 0
  have hat : ∀ (j : Nat) (h : ai_h), hs[j]? = some h → ∃ (v : ai_v) (p : Int × Int) (z : Int), ai_pv st h = some v ∧ ai_il2 st.2.2.2.1 v = some p ∧ vs[j]? = some z ∧ (∃ z0, (r ++ t)[v.2.1]? = some z0 ∧ z = z0 + v.2.2.2) ∧ p.1 ≤ z ∧ z ≤ p.2 ∧ ai_it n0 st j h = true := fun j h hj => by
    have hjl : j < hs.length := (List.getElem?_eq_some_iff.mp hj).1
    have hi := List.all_eq_true.mp q2 j (List.mem_range.mpr hjl)
    rw [hj] at hi
    have hi : ai_it n0 st j h = true := hi
    obtain ⟨z, hz⟩ : ∃ z, vs[j]? = some z := ⟨_, List.getElem?_eq_getElem (by rw [v1]; exact hjl)⟩
    have hi2 := hi
    unfold ai_it at hi2
    split at hi2
    · rename_i v hv
      split at hi2
      · rename_i p hp
        have := v2 j h z hj hz v hv p hp
        exact ⟨v, p, z, hv, hp, hz, this.1, this.2.1, this.2.2, hi⟩
      · cases hi2
    · cases hi2
  have hname : ∀ j z, vs[j]? = some z → (r ++ vs)[n0 + j]? = some z := fun j z hz => by
    rw [List.getElem?_append_right (by omega), show n0 + j - r.length = j by omega]
    exact hz
  -- the names
  have hok : ai_ok (r ++ vs) I.2.2.2.1 := by
    rw [hI]
    refine ⟨by simp [h0.1, v1], fun k z e a1 a2 => ?_⟩
    by_cases hk : k < r.length
    · rw [List.getElem?_append_left hk] at a1
      rw [List.getElem?_append_left (by omega)] at a2
      exact (h0.2 k z e a1 a2).mono ⟨vs, rfl⟩
    · rw [List.getElem?_append_right (by omega)] at a1
      rw [List.getElem?_append_right (by omega), List.getElem?_map] at a2
      obtain ⟨h, hh, rfl⟩ := Option.map_eq_some_iff.mp a2
      rw [hn, show n0 = r.length from hr.symm] at hh
      obtain ⟨v, p, z', b1, b2, b3, ⟨z0, b4, b5⟩, b6, b7, b8⟩ := hat _ h hh
      rw [a1] at b3
      cases b3
      unfold ai_it at b8
      rw [b1] at b8
      dsimp only at b8
      rw [b2] at b8
      simp only [Bool.and_eq_true, Bool.or_eq_true, decide_eq_true_eq, Bool.not_eq_true'] at b8
      obtain ⟨⟨⟨c1, c2⟩, c3⟩, c4⟩ := b8
      refine ⟨?_, ?_, ?_, ?_⟩
      · show h.2.2.2.1 ≤ z
        omega
      · show z ≤ h.2.2.2.2.1
        omega
      · intro hnz
        have hnz : h.2.2.2.2.2.1 = true := hnz
        rcases c3 with (c3 | c3) | c3
        · rw [hnz] at c3
          cases c3
        · omega
        · omega
      · show ∃ w, (r ++ vs)[h.2.2.2.2.2.2.1]? = some w ∧ w + h.2.2.2.2.2.2.2 ≤ z
        rcases c4 with ⟨d1, d2⟩ | ⟨d1, d2⟩
        · refine ⟨z, ?_, by omega⟩
          rw [d1]
          exact hname _ z a1
        · obtain ⟨w, hw⟩ : ∃ w, r[h.2.2.2.2.2.2.1]? = some w := ⟨_, List.getElem?_eq_getElem (by omega)⟩
          have := ai_ge_ok g1 (show (r ++ t)[h.2.2.2.2.2.2.1]? = some w by rw [List.getElem?_append_left (by omega)]; exact hw) b4 d2
          exact ⟨w, by rw [List.getElem?_append_left (by omega)]; exact hw, by omega⟩
  -- a value that is checked
  have hck : ∀ (k a i : Nat) (v : ai_v) (w : Option ai_v) (x : Value), ai_ck n0 hs k a i v w = true → (∀ v1, w = some v1 → ai_dv ad b (r ++ t) v1 x) → (∀ (j : Nat) (h : ai_h) (z : Int), hs[j]? = some h → h.1 = k → h.2.1 = a → (k = 0 ∨ h.2.2.1 = i) → vs[j]? = some z → ∃ (v1 : ai_v) (z0 : Int), w = some v1 ∧ (r ++ t)[v1.2.1]? = some z0 ∧ z = z0 + v1.2.2.2) → ai_dv ad b (r ++ vs) v x := fun k a i v w x hc h1 h2 => by
    unfold ai_ck at hc
    split at hc
    · rename_i hlow
      rw [decide_eq_true_eq] at hc
      exact ai_dv_low (h1 v hc) (by rw [hr]; exact hlow)
    · simp only [Bool.and_eq_true, decide_eq_true_eq] at hc
      obtain ⟨⟨⟨⟨c0, c1⟩, c2⟩, c3⟩, c4⟩ := hc
      split at c4
      · rename_i h hh
        simp only [Bool.and_eq_true, decide_eq_true_eq] at c4
        obtain ⟨vv, p, z, b1, b2, b3, -⟩ := hat _ h hh
        obtain ⟨v1, z0, rfl, k1, k2⟩ := h2 _ h z hh c4.1.1 c4.1.2 c4.2 b3
        have c0 : v1.1 = v.1 := by simpa using c0
        have hd1 := h1 v1 rfl
        have hnm := hname _ z b3
        rw [show n0 + (v.2.1 - n0) = v.2.1 by omega] at hnm
        rcases hd1 with ⟨q, -⟩ | ⟨q, z1, i32, i1, rfl, i3⟩ | ⟨q, z1, i32, i1, rfl, i3⟩ | ⟨q, -⟩ | ⟨q, -⟩
        · omega
        · rw [k1] at i1
          cases i1
          exact Or.inr (Or.inl ⟨by omega, z, i32, hnm, rfl, by omega⟩)
        · rw [k1] at i1
          cases i1
          exact Or.inr (Or.inr (Or.inl ⟨by omega, z, i32, hnm, rfl, by omega⟩))
        · omega
        · omega
      · cases c4
  have hlo : ∀ l : List (Nat × ai_v), (l.all fun q => ai_ck n0 hs 0 q.1 0 q.2 (ai_get st.2.1 q.1)) = true → ∃ lv' : List (Nat × Value), ai_lo ad b (r ++ vs) l lv' ∧ ∀ q ∈ lv', q ∈ lv := fun l => by
    induction l with
    | nil => exact fun _ => ⟨[], trivial, fun q hq => by cases hq⟩
    | cons q l ih =>
      intro ha
      rw [List.all_cons, Bool.and_eq_true] at ha
      obtain ⟨lv', a1, a2⟩ := ih ha.2
      have hc := ha.1
      -- the local's value
      have hval : ∃ (k : Nat) (x : Value), lv[k]? = some (q.1, x) ∧ (∀ v1, ai_get st.2.1 q.1 = some v1 → ai_dv ad b (r ++ t) v1 x) := by
        cases hg : ai_get st.2.1 q.1 with
        | some v1 =>
          obtain ⟨k, x, k1, k2⟩ := ai_get_ok g3 hg
          exact ⟨k, x, k1, fun v' hv' => by cases hv'; exact k2⟩
        | none =>
          exfalso
          rw [hg] at hc
          unfold ai_ck at hc
          split at hc
          · rw [decide_eq_true_eq] at hc
            cases hc
          · simp only [Bool.and_eq_true, decide_eq_true_eq] at hc
            obtain ⟨-, c4⟩ := hc
            split at c4
            · rename_i h hh
              simp only [Bool.and_eq_true, decide_eq_true_eq] at c4
              obtain ⟨vv, p, z, b1, -⟩ := hat _ h hh
              unfold ai_pv at b1
              rw [if_pos c4.1.1, c4.1.2, hg] at b1
              cases b1
            · cases c4
      obtain ⟨k, x, k1, k2⟩ := hval
      refine ⟨(q.1, x) :: lv', ⟨rfl, hck 0 q.1 0 q.2 _ x hc k2 (fun j h z hj e1 e2 _ hz => ?_), a1⟩, fun q' hq' => ?_⟩
      · obtain ⟨vv, p, z', b1, b2, b3, ⟨z0, b4, b5⟩, -⟩ := hat j h hj
        rw [hz] at b3
        cases b3
        have b1' := b1
        unfold ai_pv at b1'
        rw [if_pos e1, e2] at b1'
        exact ⟨vv, z0, b1', b4, b5⟩
      · rcases List.mem_cons.mp hq' with rfl | hq'
        · exact List.mem_of_getElem? k1
        · exact a2 q' hq'
  obtain ⟨lv', l1, l2⟩ := hlo I.2.1 q3
  refine ⟨vs, lv', v1, ⟨hok, hsb.mono ⟨vs, rfl⟩, l1, by rw [hIk]; trivial, g5, fun q hqm => ?_, g7, ?_⟩, hskc, l2, fun j h z hj hz => by have := v2 j h z hj hz; exact this⟩
  · have hc := List.all_eq_true.mp q4 q hqm
    have hval : ∃ x : Value, ai_sl ws q.1 q.2.1 x ∧ (∀ v1, ai_lk st.2.2.2.2.1 q.1 q.2.1 = some v1 → ai_dv ad b (r ++ t) v1 x) := by
      cases hg : ai_lk st.2.2.2.2.1 q.1 q.2.1 with
      | some v1 =>
        obtain ⟨x, k1, k2⟩ := ai_lk_ok g6 hg
        exact ⟨x, k1, fun v' hv' => by cases hv'; exact k2⟩
      | none =>
        exfalso
        rw [hg] at hc
        unfold ai_ck at hc
        split at hc
        · rw [decide_eq_true_eq] at hc
          cases hc
        · simp only [Bool.and_eq_true, decide_eq_true_eq] at hc
          obtain ⟨-, c4⟩ := hc
          split at c4
          · rename_i h hh
            simp only [Bool.and_eq_true, decide_eq_true_eq] at c4
            obtain ⟨vv, p, z, b1, -⟩ := hat _ h hh
            unfold ai_pv at b1
            have e3 : h.2.2.1 = q.2.1 := c4.2.resolve_left (by decide)
            rw [if_neg (by omega), c4.1.2, e3, hg] at b1
            cases b1
          · cases c4
    obtain ⟨x, k1, k2⟩ := hval
    refine ⟨x, k1, hck 1 q.1 q.2.1 q.2.2 _ x hc k2 (fun j h z hj e1 e2 e3 hz => ?_)⟩
    obtain ⟨vv, p, z', b1, b2, b3, ⟨z0, b4, b5⟩, -⟩ := hat j h hj
    rw [hz] at b3
    cases b3
    have b1' := b1
    unfold ai_pv at b1'
    rw [if_neg (by omega), e2, e3.resolve_left (by decide)] at b1'
    exact ⟨vv, z0, b1', b4, b5⟩
  · intro hs z hz
    rw [List.getElem?_append_left (by omega)] at hz
    obtain ⟨p1, p2⟩ := g8 hs z (by rw [List.getElem?_append_left (by omega)]; exact hz)
    refine ⟨p1, fun o ho => ?_⟩
    have p3 := p2 o ho
    rw [List.getElem?_append_left (by have := h8 hs; omega)] at p3 ⊢
    exact p3
end AIL
end
section
/-! the whole walk -/
def ai_ms (n0 mj : Nat) (up : Bool) (hs : List ai_h) (x : ai_s) : Bool := match hs[mj]? with
  | some h => (match ai_pv x h with
    | some v => if up = true then ai_ge x.2.2.2.1 (n0 + mj) 1 12 v.2.1 v.2.2.2 else decide (v.2.1 = n0 + mj) && decide (v.2.2.2 ≤ -1)
    | none => false)
  | none => false
def ai_I (st : ai_s) (hs : List ai_h) (lo' : List (Nat × ai_v)) (kn' : List ai_k) : ai_s := (st.1, lo', [], st.2.2.2.1 ++ hs.map ai_en, kn', st.2.2.2.2.2)
def ai_lp (one : List Nat → ai_s → Option (List ai_s)) (cu : List Nat) (st : ai_s) (hs : List ai_h) (lo' : List (Nat × ai_v)) (kn' : List ai_k) (mj : Nat) (up : Bool) : Option (List ai_s) :=
  if ai_lq st.2.2.2.1.length hs (ai_I st hs lo' kn') st = true then
    (one (st.1 :: cu) (ai_I st hs lo' kn')).bind fun xs =>
      if (xs.all fun x => !(x.1 == st.1) || (ai_lq st.2.2.2.1.length hs (ai_I st hs lo' kn') x && ai_ms st.2.2.2.1.length mj up hs x)) = true then some (xs.filter fun x => !(x.1 == st.1)) else none
  else none
def ai_mz (mj : Nat) (up : Bool) (hs : List ai_h) (vs : List Int) : Nat := match hs[mj]?, vs[mj]? with
  | some h, some z => if up = true then (h.2.2.2.2.1 - z).toNat else (z - h.2.2.2.1).toNat
  | _, _ => 0
section AIW
variable {TY : List ai_c} {WR : List (Nat × Nat × Nat)} {w0 : va_W} {ad : List Nat} {M : ai_m} {d : Nat} {p : Program} {l : Launch} {e : Env} {R : Room} {s : State} {m : MethodId} {args : Array Value} {below : List Frame} {meth : Method} {c : Code} {D : va_G} {tys : ai_ty} {A : Nat → Prop} {b L : Nat} {sx : Nat → Int32} {cells slots : Nat} {Q : State → Prop} {r0 : List Int} {pc pc' : Nat} {lo : List (Nat × ai_v)} {sk : List ai_v} {en en' : List ai_e} {kn kn' : List ai_k} {sb sb' : List ai_b} {x y v : ai_v} {ss : List ai_s}
theorem ai_lp_ok {one : List Nat → ai_s → Option (List ai_s)} {cu : List Nat} {st : ai_s} {hs : List ai_h} {lo' : List (Nat × ai_v)} {mj : Nat} {up : Bool} {ys : List ai_s} (hone : ∀ (xs : List ai_s) (r1 : List Int), one (st.1 :: cu) (ai_I st hs lo' kn') = some xs → (∀ x ∈ xs, ai_G TY WR w0 ad M p l e R s m args below meth c D tys A b L sx cells slots Q r1 x) → ai_G TY WR w0 ad M p l e R s m args below meth c D tys A b L sx cells slots Q r1 (ai_I st hs lo' kn')) (hn : 1 < st.2.2.2.1.length) (h8 : M.2.2.2.2.1 = true → 8 ≤ st.2.2.2.1.length) (hq : ai_lp one cu st hs lo' kn' mj up = some ys) (k : ∀ x ∈ ys, ai_G TY WR w0 ad M p l e R s m args below meth c D tys A b L sx cells slots Q r0 x) : ai_G TY WR w0 ad M p l e R s m args below meth c D tys A b L sx cells slots Q r0 st := by
  unfold ai_lp at hq
  split at hq
  · rename_i hlq0
    obtain ⟨xs, hxs, hq⟩ := Option.bind_eq_some_iff.mp hq
    split at hq
    · rename_i hall
      injection hq with hq
      subst hq
      intro r lv skc ws H locs ls hx g hP hD hS hl
      have g' : ai_gm TY WR w0 ad b L sx tys M.2.2.2.2.1 (r ++ []) st lv skc ws := by rw [List.append_nil]; exact g
      obtain ⟨vs, lv', v1, v2, hsk, hsub, -⟩ := ai_lq_ok (I := ai_I st hs lo' kn') rfl rfl g.1 rfl hn h8 g.2.1 g' hlq0
      subst hsk
      have hr : r.length = st.2.2.2.1.length := g.1.1
      have key : ∀ (N : Nat) (vs : List Int) (lv : List (Nat × Value)) (ws : va_W) (H : Heap) (locs : List Loc) (ls : Array Slot), ai_mz mj up hs vs < N → vs.length = hs.length → ai_gm TY WR w0 ad b L sx tys M.2.2.2.2.1 (r ++ vs) (ai_I st hs lo' kn') lv [] ws → va_P D vwCl ws H → va_D A ws → va_S A s.heap H locs → lv_has ls M.2.2.1 lv → W p l e R s m args below meth c H locs cells slots Q (F0 m st.1 ls []) := by
        intro N
        induction N with
        | zero => exact fun vs lv ws H locs ls h => absurd h (Nat.not_lt_zero _)
        | succ N ih =>
          intro vs lv ws H locs ls hm hvl g1 hP hD hS hl
          refine hone xs (r ++ vs) hxs (fun z hz => ?_) (r ++ vs) lv [] ws H locs ls ai_x.rf g1 hP hD hS hl
          by_cases hpc : z.1 = st.1
          · have hz2 := List.all_eq_true.mp hall z hz
            rw [Bool.or_eq_true] at hz2
            have hz2 := hz2.resolve_left (by rw [hpc]; simp)
            rw [Bool.and_eq_true] at hz2
            obtain ⟨hlq, hms⟩ := hz2
            intro r1 lv1 sk1 ws1 H1 locs1 ls1 hx1 g2 hP1 hD1 hS1 hl1
            obtain ⟨t, rfl⟩ := hx1
            rw [List.append_assoc] at g2
            obtain ⟨vs', lv', a1, a2, a3, a4, a5⟩ := ai_lq_ok (I := ai_I st hs lo' kn') rfl rfl g.1 rfl hn h8 g.2.1 g2 hlq
            subst a3
            rw [hpc]
            refine ih vs' lv' ws1 H1 locs1 ls1 ?_ a1 a2 hP1 hD1 hS1 ⟨hl1.1, hl1.2.1, fun q hq => hl1.2.2 q (a4 q hq)⟩
            -- the measure falls
            unfold ai_ms at hms
            split at hms
            · rename_i h hh
              have hjl : mj < hs.length := (List.getElem?_eq_some_iff.mp hh).1
              obtain ⟨z1, hz1⟩ : ∃ z1, vs[mj]? = some z1 := ⟨_, List.getElem?_eq_getElem (by rw [hvl]; exact hjl)⟩
              obtain ⟨z2, hz2⟩ : ∃ z2, vs'[mj]? = some z2 := ⟨_, List.getElem?_eq_getElem (by rw [a1]; exact hjl)⟩
              have hb : ai_oe (r ++ vs') z2 (ai_en h) := by
                refine a2.1.2 (r.length + mj) z2 _ ?_ ?_
                · rw [List.getElem?_append_right (by omega), show r.length + mj - r.length = mj by omega]
                  exact hz2
                · show (st.2.2.2.1 ++ hs.map ai_en)[r.length + mj]? = _
                  rw [List.getElem?_append_right (by omega), hr, show st.2.2.2.1.length + mj - st.2.2.2.1.length = mj by omega, List.getElem?_map, hh]
                  rfl
              have b1 : h.2.2.2.1 ≤ z2 := hb.1
              have b2 : z2 ≤ h.2.2.2.2.1 := hb.2.1
              have hit : ai_it st.2.2.2.1.length z mj h = true := by
                unfold ai_lq at hlq
                simp only [Bool.and_eq_true] at hlq
                have := List.all_eq_true.mp hlq.1.1.2 mj (List.mem_range.mpr hjl)
                rw [hh] at this
                exact this
              split at hms
              · rename_i v hv
                unfold ai_it at hit
                rw [hv] at hit
                dsimp only at hit
                split at hit
                · rename_i p hp
                  obtain ⟨⟨z0, c1, c2⟩, -⟩ := a5 mj h z2 hh hz2 v hv p hp
                  have hold : (r ++ (vs ++ t))[st.2.2.2.1.length + mj]? = some z1 := by
                    rw [List.getElem?_append_right (by omega), List.getElem?_append_left (by rw [hvl]; omega), show st.2.2.2.1.length + mj - r.length = mj by omega]
                    exact hz1
                  have e1 : ai_mz mj up hs vs = if up = true then (h.2.2.2.2.1 - z1).toNat else (z1 - h.2.2.2.1).toNat := by
                    unfold ai_mz
                    rw [hh, hz1]
                  have e2 : ai_mz mj up hs vs' = if up = true then (h.2.2.2.2.1 - z2).toNat else (z2 - h.2.2.2.1).toNat := by
                    unfold ai_mz
                    rw [hh, hz2]
                  rw [e1] at hm
                  rw [e2]
                  split at hms
                  · rename_i hup
                    have := ai_ge_ok g2.1 hold c1 hms
                    rw [if_pos hup] at hm ⊢
                    omega
                  · rename_i hup
                    simp only [Bool.and_eq_true, decide_eq_true_eq] at hms
                    rw [hms.1, hold] at c1
                    cases c1
                    rw [if_neg hup] at hm ⊢
                    omega
                · cases hit
              · cases hms
            · cases hms
          · exact (k z (List.mem_filter.mpr ⟨hz, by simp [hpc]⟩)).up (hx.tr ⟨vs, rfl⟩)
      exact key (ai_mz mj up hs vs + 1) vs lv' ws H locs ls (Nat.lt_succ_self _) v1 v2 hP hD hS ⟨hl.1, hl.2.1, fun q hq => hl.2.2 q (hsub q hq)⟩
    · cases hq
  · cases hq
def ai_all (f : ai_s → Option (List ai_s)) : List ai_s → Option (List ai_s)
  | [] => some []
  | z :: t => (f z).bind fun a => (ai_all f t).map fun b => a ++ b
theorem ai_all_ok {f : ai_s → Option (List ai_s)} : ∀ {zs ys : List ai_s}, ai_all f zs = some ys → ∀ z ∈ zs, ∃ a, f z = some a ∧ ∀ q ∈ a, q ∈ ys
  | [], _, _, _, hz => by cases hz
  | z :: t, ys, h, w, hw => by
    obtain ⟨a, h1, h⟩ := Option.bind_eq_some_iff.mp (show (f z).bind _ = some ys from h)
    obtain ⟨b', h2, rfl⟩ := Option.map_eq_some_iff.mp h
    rcases List.mem_cons.mp hw with rfl | hw
    · exact ⟨a, h1, fun q hq => List.mem_append_left _ hq⟩
    · obtain ⟨a', h3, h4⟩ := ai_all_ok h2 w hw
      exact ⟨a', h3, fun q hq => List.mem_append_right _ (h4 q hq)⟩
/-- a call's row: (its number, kind, method, arguments, the receiver's class): 0 virtual, 1 static, 2 a nest mate's, 3 Math.min, 4 Math.max, 5 arraycopy -/
abbrev ai_l5 : Type := Nat × Nat × Nat × Nat × Nat
def ai_lok (MT : List ai_m) (own : String) (q : ai_l5) : Prop := match q.2.1 with
  | 0 => ∃ (M' : ai_m) (r : vw_C), MT[q.2.2.1]? = some M' ∧ vwCl[q.2.2.2.2]? = some r ∧ GoodIn ai_GT (wsV own q.1 r.1 M'.1 (ai_ws M')) ∧ (M'.1.cls = r.1 ∧ M'.1.cls ≠ "java/lang/invoke/MethodHandle" ∧ M'.1.cls ≠ "java/lang/invoke/VarHandle" ∧ (parseMethodDescriptor M'.1.desc).map (fun d => d.parameters.length) = some q.2.2.2.1)
  | 1 => ∃ M' : ai_m, MT[q.2.2.1]? = some M' ∧ GoodIn ai_GT (va_wsS own q.1 M'.1 (ai_ws M')) ∧ (M'.1.cls ≠ "java/lang/invoke/MethodHandle" ∧ M'.1.cls ≠ "java/lang/invoke/VarHandle" ∧ (parseMethodDescriptor M'.1.desc).map (fun d => d.parameters.length) = some q.2.2.2.1)
  | 2 => ∃ (M' : ai_m) (host : String), MT[q.2.2.1]? = some M' ∧ Cond.methodLinkNest own q.1 M'.1 host ∈ ai_NW ∧ GoodIn ai_GT (ai_ws M') ∧ Cond.static M'.1 ∈ ai_GT ∧ Cond.initialized M'.1.cls ∈ ai_GT ∧ (M'.1.cls ≠ "java/lang/invoke/MethodHandle" ∧ M'.1.cls ≠ "java/lang/invoke/VarHandle" ∧ (parseMethodDescriptor M'.1.desc).map (fun d => d.parameters.length) = some q.2.2.2.1)
  | 3 => Cond.methodLink own q.1 Lib.Math.min.name ∈ ai_GT ∧ Cond.static Lib.Math.min.name ∈ ai_GT ∧ Cond.initialized "java/lang/Math" ∈ ai_GT ∧ Cond.code Lib.Math.min.name Lib.Math.min.code 2 (some .int) ∈ ai_GT
  | 4 => Cond.methodLink own q.1 Lib.Math.max.name ∈ ai_GT ∧ Cond.static Lib.Math.max.name ∈ ai_GT ∧ Cond.initialized "java/lang/Math" ∈ ai_GT ∧ Cond.code Lib.Math.max.name Lib.Math.max.code 2 (some .int) ∈ ai_GT
  | _ => Cond.methodLink own q.1 arraycopyName ∈ ai_GT ∧ Cond.native arraycopyName ∈ ai_GT ∧ Cond.static arraycopyName ∈ ai_GT ∧ Cond.initialized "java/lang/System" ∈ ai_GT
/-- the ends of a method made one: what was known and still is, the answer by its bounds -/
def ai_mv (x : ai_s) : ai_s := (0, (match x.2.2.1 with
  | [v] => [(0, v)]
  | _ => []), [], x.2.2.2.1, x.2.2.2.2.1, x.2.2.2.2.2)
/-- how the ends of a method are made one: (method, by its answer too, by these places, with these places kept) -/
abbrev ai_g : Type := Nat × Bool × List (Nat × Nat) × List (Nat × Nat)
def ai_mk (n0 : Nat) (xs : List ai_s) : List ai_k := (xs.headD (0, [], [], [], [], [])).2.2.2.2.1.filter fun q => decide (q.2.2.2.1 < n0) && decide (q.2.2.2.2.1 < n0) && xs.all fun x => decide (ai_lk x.2.2.2.2.1 q.1 q.2.1 = some q.2.2)
def ai_hu (xs : List ai_s) (f : ai_s → Option ai_v) : Int × Int := xs.foldl (fun w x => match (f x).bind fun v => ai_il2 x.2.2.2.1 v with
  | some p => (min w.1 p.1, max w.2 p.2)
  | none => w) (9223372036854775807, -9223372036854775808)
/-- the kept places' items: those that all the ends know -/
def ai_ki (n0 : Nat) (kn : List ai_k) (xs : List ai_s) : Nat → List (Nat × Nat) → List ai_h
  | _, [] => []
  | j, q :: t => if xs.all (fun x => (ai_lk x.2.2.2.2.1 q.1 q.2).isSome) = true then
      (1, q.1, q.2, (ai_hu xs fun x => ai_lk x.2.2.2.2.1 q.1 q.2).1, (ai_hu xs fun x => ai_lk x.2.2.2.2.1 q.1 q.2).2, false, (match ai_lk kn q.1 q.2 with
        | some v => if xs.all (fun x => (ai_lk x.2.2.2.2.1 q.1 q.2).any fun w => ai_ge x.2.2.2.1 v.2.1 (v.2.2.2 + 1) 12 w.2.1 w.2.2.2) = true then (v.2.1, v.2.2.2 + 1)
          else if xs.all (fun x => (ai_lk x.2.2.2.2.1 q.1 q.2).any fun w => ai_ge x.2.2.2.1 v.2.1 v.2.2.2 12 w.2.1 w.2.2.2) = true then (v.2.1, v.2.2.2) else (n0 + j, 0)
        | none => (n0 + j, 0))) :: ai_ki n0 kn xs (j + 1) t
    else ai_ki n0 kn xs j t
def ai_kk (n0 : Nat) : Nat → List ai_h → List ai_k
  | _, [] => []
  | j, h :: t => if h.1 = 1 then (h.2.1, h.2.2.1, (1, n0 + j, 0, 0)) :: ai_kk n0 (j + 1) t else ai_kk n0 (j + 1) t
/-- one end for many -/
def ai_m1 (en : List ai_e) (sb : List ai_b) (hs : List ai_h) (rv : List ai_v) (kn' : List ai_k) (xs : List ai_s) : Option ai_s :=
  if rv.length ≤ 1 ∧ (xs.all fun x => decide (x.2.2.1.length = rv.length) && ai_lq en.length hs (0, rv.map (fun v => (0, v)), [], en ++ hs.map ai_en, kn', sb) (ai_mv x)) = true then some (0, [], rv, en ++ hs.map ai_en, kn', sb) else none
theorem ai_m1_ok {r t : List Int} {hs : List ai_h} {rv : List ai_v} {xs : List ai_s} {z y : ai_s} {lvx : List (Nat × Value)} {skx : List Value} {ws : va_W} (hn : 1 < en.length) (g1 : ai_ok r en) (g2 : ai_sb w0 r sb) (hz : z ∈ xs) (g : ai_gm TY WR w0 ad b L sx tys false (r ++ t) z lvx skx ws) (hq : ai_m1 en sb hs rv kn' xs = some y) :
    ∃ r', ai_x r r' ∧ ai_gm TY WR w0 ad b L sx tys false r' y [] skx ws := by
  obtain ⟨f1, f2, f3, f4, f5, f6, f7, -⟩ := g
  unfold ai_m1 at hq
  split at hq
  · rename_i hc
    obtain ⟨hrv, hall⟩ := hc
    injection hq with hq
    subst hq
    have h1 := List.all_eq_true.mp hall z hz
    rw [Bool.and_eq_true, decide_eq_true_eq] at h1
    match rv, hrv, h1 with
    | [], _, h1 =>
      have he : z.2.2.1 = [] := List.eq_nil_of_length_eq_zero h1.1
      rw [he] at f4
      have hs0 := f4.nil
      subst hs0
      have hmv : ai_gm TY WR w0 ad b L sx tys false (r ++ t) (ai_mv z) [] [] ws := ⟨f1, f2, by unfold ai_mv; rw [he]; trivial, trivial, f5, f6, f7, fun h => by cases h⟩
      obtain ⟨vs, lv', v1, v2, -, hsub, -⟩ := ai_lq_ok (I := (0, [], [], en ++ hs.map ai_en, kn', sb)) (en := en) rfl rfl g1 rfl hn (fun h => by cases h) g2 hmv h1.2
      have hlv : lv' = [] := by
        cases lv' with
        | nil => rfl
        | cons a l => exact absurd (hsub a List.mem_cons_self) List.not_mem_nil
      subst hlv
      exact ⟨r ++ vs, ⟨vs, rfl⟩, v2⟩
    | [v], _, h1 =>
      obtain ⟨w, hw⟩ : ∃ w, z.2.2.1 = [w] := by
        have := h1.1
        match hh : z.2.2.1 with
        | [] => rw [hh] at this; cases this
        | [w] => exact ⟨w, rfl⟩
        | _ :: _ :: _ => rw [hh] at this; simp at this
      rw [hw] at f4
      obtain ⟨x, s1, rfl, dx, k5⟩ := f4.cons
      have hs0 := k5.nil
      subst hs0
      have hmv : ai_gm TY WR w0 ad b L sx tys false (r ++ t) (ai_mv z) [(0, x)] [] ws := ⟨f1, f2, by unfold ai_mv; rw [hw]; exact ⟨rfl, dx, trivial⟩, trivial, f5, f6, f7, fun h => by cases h⟩
      obtain ⟨vs, lv', v1, v2, -, hsub, -⟩ := ai_lq_ok (I := (0, [(0, v)], [], en ++ hs.map ai_en, kn', sb)) (en := en) rfl rfl g1 rfl hn (fun h => by cases h) g2 hmv h1.2
      obtain ⟨u1, u2, u3, u4, u5, u6, u7, u8⟩ := v2
      refine ⟨r ++ vs, ⟨vs, rfl⟩, u1, u2, trivial, ⟨?_, trivial⟩, u5, u6, u7, u8⟩
      match lv', u3, hsub with
      | [a], u3, hsub =>
        have ha := List.mem_singleton.mp (hsub a List.mem_cons_self)
        have := u3.2.1
        rw [ha] at this
        exact this
      | [], u3, _ => exact u3.elim
      | _ :: _ :: _, u3, _ => exact u3.2.2.elim
  · cases hq
def ai_key (g : ai_g) (x : ai_s) : List (Option (Int × Int)) × List (Option (Int × Int)) := (if g.2.1 = true then x.2.2.1.map (ai_il2 x.2.2.2.1) else [], g.2.2.1.map fun q => (ai_lk x.2.2.2.2.1 q.1 q.2).bind (ai_il2 x.2.2.2.1))
def ai_mgrp (n0 : Nat) (kn : List ai_k) (g : ai_g) (xs : List ai_s) : List ai_h × List ai_v × List ai_k :=
  match (xs.headD (0, [], [], [], [], [])).2.2.1 with
  | v :: _ => if v.2.1 < n0 ∧ (xs.all fun x => decide (x.2.2.1 = [v])) = true then (ai_ki n0 kn xs 0 g.2.2.2, [v], ai_kk n0 0 (ai_ki n0 kn xs 0 g.2.2.2) ++ ai_mk n0 xs)
      else ((0, 0, 0, (ai_hu xs fun x => x.2.2.1.head?).1, (ai_hu xs fun x => x.2.2.1.head?).2, false, n0, 0) :: ai_ki n0 kn xs 1 g.2.2.2, [(v.1, n0, 0, 0)], ai_kk n0 1 (ai_ki n0 kn xs 1 g.2.2.2) ++ ai_mk n0 xs)
  | [] => (ai_ki n0 kn xs 0 g.2.2.2, [], ai_kk n0 0 (ai_ki n0 kn xs 0 g.2.2.2) ++ ai_mk n0 xs)
def ai_mgs (en : List ai_e) (kn : List ai_k) (sb : List ai_b) (g : ai_g) : Nat → List ai_s → Option (List ai_s)
  | _, [] => some []
  | 0, _ => none
  | n + 1, x0 :: t => (ai_m1 en sb (ai_mgrp en.length kn g ((x0 :: t).filter fun x => decide (ai_key g x = ai_key g x0))).1 (ai_mgrp en.length kn g ((x0 :: t).filter fun x => decide (ai_key g x = ai_key g x0))).2.1 (ai_mgrp en.length kn g ((x0 :: t).filter fun x => decide (ai_key g x = ai_key g x0))).2.2 ((x0 :: t).filter fun x => decide (ai_key g x = ai_key g x0))).bind fun y =>
      (ai_mgs en kn sb g n ((x0 :: t).filter fun x => !decide (ai_key g x = ai_key g x0))).map fun ys => y :: ys
theorem ai_mgs_ok {r t : List Int} {g : ai_g} {z : ai_s} {lvx : List (Nat × Value)} {skx : List Value} {ws : va_W} (hn : 1 < en.length) (g1 : ai_ok r en) (g2 : ai_sb w0 r sb) (gg : ai_gm TY WR w0 ad b L sx tys false (r ++ t) z lvx skx ws) : ∀ {n : Nat} {xs ys : List ai_s}, z ∈ xs → ai_mgs en kn sb g n xs = some ys →
    ∃ y ∈ ys, ∃ r', ai_x r r' ∧ ai_gm TY WR w0 ad b L sx tys false r' y [] skx ws
  | _, [], _, hz, _ => by cases hz
  | 0, _ :: _, _, _, hq => by cases hq
  | n + 1, x0 :: tt, ys, hz, hq => by
    obtain ⟨y, h1, hq⟩ := Option.bind_eq_some_iff.mp (show (ai_m1 _ _ _ _ _ _).bind _ = some ys from hq)
    obtain ⟨ys', h2, rfl⟩ := Option.map_eq_some_iff.mp hq
    by_cases hk : ai_key g z = ai_key g x0
    · obtain ⟨r', e1, e2⟩ := ai_m1_ok hn g1 g2 (List.mem_filter.mpr ⟨hz, decide_eq_true hk⟩) gg h1
      exact ⟨y, List.mem_cons_self, r', e1, e2⟩
    · obtain ⟨y', hy, r', e1, e2⟩ := ai_mgs_ok hn g1 g2 gg (List.mem_filter.mpr ⟨hz, by simp [hk]⟩) h2
      exact ⟨y', List.mem_cons_of_mem _ hy, r', e1, e2⟩
/-- the walk of a callee with these arguments, and what comes back -/
def ai_go (MT : List ai_m) (MG : List ai_g) (rec : ai_R) (d mid : Nat) (fa k : List ai_v) (pc' : Nat) (lo : List (Nat × ai_v)) (en : List ai_e) (kn : List ai_k) (sb : List ai_b) : Option (List ai_s) :=
  (MT[mid]?).bind fun M' => if 1 ≤ d ∧ M'.2.2.2.2.1 = false ∧ M'.2.2.1 ≤ 17 ∧ (k.map ai_wd1).sum ≤ 8 ∧ (fa.map ai_wd1).sum ≤ M'.2.2.1 then
    (rec mid M' (d - 1) [] (0, ai_args 0 fa, [], en, kn, sb)).bind fun xs => if xs.all (ai_rt M') = true then (match MG.find? fun g => Nat.beq g.1 mid with
      | some g => (ai_mgs en kn sb g xs.length xs).map fun ys => ys.map (ai_bk pc' lo k)
      | none => some (xs.map (ai_bk pc' lo k))) else none else none
def ai_call (TY : List ai_c) (WR : List (Nat × Nat × Nat)) (MT : List ai_m) (MG : List ai_g) (rec : ai_R) (d : Nat) (M : ai_m) (ins : Instr) (len pc : Nat) (lo : List (Nat × ai_v)) (sk : List ai_v) (en : List ai_e) (kn : List ai_k) (sb : List ai_b) : Option (List ai_s) := match ins, len with
  | .invokevirtual i, 3 => (M.2.2.2.2.2.2.2.2.2.2.1.find? fun q => Nat.beq q.1 i).bind fun q => if q.2.1 = 0 ∧ q.2.2.2.1 ≤ sk.length then (match sk.drop q.2.2.2.1 with
      | rv :: k => (TY[rv.2.1]?).bind fun t => if rv.1 = 0 ∧ t.1 = 0 ∧ t.2.1 = q.2.2.2.2 then ai_go MT MG rec d q.2.2.1 (rv :: (sk.take q.2.2.2.1).reverse) k (pc + 3) lo en kn sb else none
      | _ => none) else none
  | .invokestatic i, 3 => (M.2.2.2.2.2.2.2.2.2.2.1.find? fun q => Nat.beq q.1 i).bind fun q =>
      if (q.2.1 = 1 ∨ q.2.1 = 2) ∧ q.2.2.2.1 ≤ sk.length then ai_go MT MG rec d q.2.2.1 (sk.take q.2.2.2.1).reverse (sk.drop q.2.2.2.1) (pc + 3) lo en kn sb
      else if q.2.1 = 3 ∧ 1 ≤ d ∧ (sk.map ai_wd1).sum ≤ 8 then ai_n2 ai_min (pc + 3) lo sk en kn sb
      else if q.2.1 = 4 ∧ 1 ≤ d ∧ (sk.map ai_wd1).sum ≤ 8 then ai_n2 ai_max (pc + 3) lo sk en kn sb
      else if 5 ≤ q.2.1 ∧ 1 ≤ d then ai_ncp TY WR (pc + 3) lo sk en kn sb else none
  | _, _ => none
end AIW
end
section
/-! calls are sound; the walk is sound -/
/-- how deep a known method must go -/
def ai_gd (mid : Nat) : Nat := if (Nat.beq mid 37 || Nat.beq mid 150) = true then 6 else if Nat.beq mid 34 = true then 4 else if (Nat.beq mid 103 || Nat.beq mid 104) = true then 5 else if Nat.beq mid 106 = true then 7 else if (Nat.beq mid 48 || Nat.beq mid 109) = true then 10 else 3
section AIY
variable {TY : List ai_c} {WR : List (Nat × Nat × Nat)} {w0 : va_W} {ad : List Nat} {M : ai_m} {d : Nat} {p : Program} {l : Launch} {e : Env} {R : Room} {s : State} {m : MethodId} {args : Array Value} {below : List Frame} {meth : Method} {c : Code} {D : va_G} {tys : ai_ty} {A : Nat → Prop} {b L : Nat} {sx : Nat → Int32} {cells slots : Nat} {Q : State → Prop} {r0 : List Int} {pc pc' : Nat} {lo : List (Nat × ai_v)} {sk : List ai_v} {en en' : List ai_e} {kn kn' : List ai_k} {sb sb' : List ai_b} {x y v : ai_v} {ss : List ai_s} {MT : List ai_m} {MG : List ai_g} {rec : ai_R}
theorem ai_go_ok (hS : ai_SR TY WR MT rec) (hMT : ∀ M ∈ MT, ai_mok M ∧ plainName M.1.cls = true) (C : ai_cx M d p R s m args c D tys A b L sx cells slots) (hn : 1 < en.length) {mid : Nat} {fa k : List ai_v} (hq : ai_go MT MG rec d mid fa k (pc + 3) lo en kn sb = some ss) (hk : ∀ st ∈ ss, ai_G TY WR w0 ad M p l e R s m args below meth c D tys A b L sx cells slots Q r0 st)
    {r : List Int} {lv : List (Nat × Value)} {vals rest stk : List Value} {ws : va_W} {H : Heap} {locs : List Loc} {ls : Array Slot} (hx : ai_x r0 r) (g1 : ai_ok r en) (g2 : ai_sb w0 r sb) (g3 : ai_lo ad b r lo lv) (gf : ai_sk ad b r fa vals) (gk : ai_sk ad b r k rest) (g5 : ai_wd TY ad tys ws) (g6 : ai_kn ad b r ws kn) (g7 : ai_fr WR w0 ws) (g8 : M.2.2.2.2.1 = true → ai_sx L sx r) (hP : va_P D vwCl ws H) (hD : va_D A ws) (hS' : va_S A s.heap H locs) (hl : lv_has ls M.2.2.1 lv)
    (row : ∀ (M' : ai_m) (Qc : Array Value → State → Outcome → State → Prop), MT[mid]? = some M' → 1 ≤ d → M'.2.2.1 ≤ 17 → (rest.map fun v => v.category).sum ≤ 8 → Met l M'.1 (ai_ws M') (ai_rm (d - 1)) (va_Pc vals (fun U => U.heap = H ∧ va_K D vwCl tys U ∧ ai_nj A U)) Qc 0 0 A → va_Run p l e R s m args below meth c H locs cells slots 0 0 (F0 m pc ls stk) rest (Qc vals.toArray) A) :
    W p l e R s m args below meth c H locs cells slots Q (F0 m pc ls stk) := by
  unfold ai_go at hq
  obtain ⟨M', hM', hq⟩ := Option.bind_eq_some_iff.mp hq
  split at hq
  · rename_i hc
    obtain ⟨c1, c2, c3, c4, c5⟩ := hc
    obtain ⟨xs', hxs, hq⟩ := Option.bind_eq_some_iff.mp hq
    split at hq
    · rename_i hrt
      have hrt' : ∀ x ∈ xs', ai_rt M' x = true := fun x hx => List.all_eq_true.mp hrt x hx
      have met := ai_met (L := L) (sx := sx) (w0 := w0) hS hMT hM' c2 hxs hrt' c5 g1 g2 gf g5 g6 g7 hP hD (fun q hq => C.2.2.2.2.2.2.2.1 q (Nat.le_trans hS'.1 hq)) l
      refine ai_callW (row M' _ hM' c1 c3 (by rw [ai_sum gk]; exact c4) met) (fun v0 st₀ t LL h0 hL hQ => ?_)
      obtain ⟨⟨x, hxm, r', lvx, skx, wsx, e1, e2, e3, e4, e5⟩, hF⟩ := hQ
      injection e5 with e5
      subst e5
      rw [ai_rt_short (hrt' x hxm) e2.2.2.2.1]
      split at hq
      · obtain ⟨ys, hy1, hy2⟩ := Option.map_eq_some_iff.mp hq
        subst hy2
        obtain ⟨tt, rfl⟩ := e1
        obtain ⟨y, hym, r2, e1, f1, f2, f3, f4, f5, f6, f7, -⟩ := ai_mgs_ok hn g1 g2 e2 hxm hy1
        exact hk (ai_bk (pc + 3) lo k y) (List.mem_map.mpr ⟨y, hym, rfl⟩) r2 lv (skx ++ rest) wsx t.heap (locs ++ LL) ls (hx.tr e1) ⟨f1, f2, g3.mono e1, f4.join (gk.mono e1), f5, f6, f7, ai_sc1 e1 (by rw [g1.1]; exact hn) g8⟩ e3 e4 (ai_SF hS' h0 hF hL) hl
      · injection hq with hq
        subst hq
        obtain ⟨f1, f2, f3, f4, f5, f6, f7, -⟩ := e2
        exact hk (ai_bk (pc + 3) lo k x) (List.mem_map.mpr ⟨x, hxm, rfl⟩) r' lv (skx ++ rest) wsx t.heap (locs ++ LL) ls (hx.tr e1) ⟨f1, f2, g3.mono e1, f4.join (gk.mono e1), f5, f6, f7, ai_sc1 e1 (by rw [g1.1]; exact hn) g8⟩ e3 e4 (ai_SF hS' h0 hF hL) hl
    · cases hq
  · cases hq
theorem ai_roomOK (C : ai_cx M d p R s m args c D tys A b L sx cells slots) (h1 : 1 ≤ d) {M' : ai_m} (h2 : M'.2.2.1 ≤ 17) : (ai_rm (d - 1)).frames + 1 ≤ R.frames ∧ 8 + (M'.2.2.1 + 11) + (ai_rm (d - 1)).locals ≤ R.locals := by
  have a1 := C.2.2.2.2.2.2.2.2.1.1
  have a2 := C.2.2.2.2.2.2.2.2.1.2.1
  constructor
  · show d - 1 + 1 ≤ _
    omega
  · show 8 + (M'.2.2.1 + 11) + 36 * (d - 1) ≤ _
    omega
theorem ai_Jmm (C : ai_cx M d p R s m args c D tys A b L sx cells slots) {F : List ai_e → List ai_b → ai_v → ai_v → Option ai_q} {f : Int32 → Int32 → Int32} (hO : ai_O2 F (fun _ => True) f) (hn : 1 < en.length) (hq : ai_n2 F pc' lo sk en kn sb = some ss) (hw : (sk.map ai_wd1).sum ≤ 8)
    (row : ∀ (H : Heap) (locs : List Loc) (ls : Array Slot) (rest : List Value) (i j : Int32), ls.size = M.2.2.1 → (rest.map fun v => v.category).sum ≤ 8 → W p l e R s m args below meth c H locs cells slots Q (F0 m pc' ls (.int (f i j) :: rest)) → W p l e R s m args below meth c H locs cells slots Q (F0 m pc ls (.int j :: .int i :: rest)))
    (k : ∀ st ∈ ss, ai_G TY WR w0 ad M p l e R s m args below meth c D tys A b L sx cells slots Q r0 st) : ai_G TY WR w0 ad M p l e R s m args below meth c D tys A b L sx cells slots Q r0 (pc, lo, sk, en, kn, sb) := by
  unfold ai_n2 at hq
  split at hq
  · rename_i y x sk'
    obtain ⟨q, h1, rfl⟩ := Option.map_eq_some_iff.mp hq
    intro r lv skc ws H locs ls hx g hP hD hS hl
    obtain ⟨g1, g2, g3, g4, g5, g6, g7, g8⟩ := g
    obtain ⟨vy, s1, rfl, dy, k4⟩ := g4.cons
    obtain ⟨vx, s2, rfl, dx, k5⟩ := k4.cons
    obtain ⟨i, j, rfl, rfl, -, r', e1, e2, e3, e4⟩ := hO w0 ad b r en sb x y vx vy q g1 g2 dx dy h1
    have hsum := ai_sum k5
    have hw' : (sk'.map ai_wd1).sum ≤ 8 := by
      rw [List.map_cons, List.map_cons, List.sum_cons, List.sum_cons] at hw
      omega
    exact row H locs ls s2 i j hl.1 (by rw [hsum]; exact hw') (k _ (List.mem_singleton.mpr rfl) r' lv _ ws H locs ls (hx.tr e1) ⟨e2, e3, g3.mono e1, ⟨e4, k5.mono e1⟩, g5, g6.mono e1, g7, ai_sc1 e1 (by rw [g1.1]; exact hn) g8⟩ hP hD hS hl)
  · cases hq
theorem ai_call_ok (hS : ai_SR TY WR MT rec) (hMT : ∀ M ∈ MT, ai_mok M ∧ plainName M.1.cls = true) (hML : ∀ q ∈ M.2.2.2.2.2.2.2.2.2.2.1, ai_lok MT M.1.cls q) (C : ai_cx M d p R s m args c D tys A b L sx cells slots) {ins : Instr} {len : Nat} (hn : 1 < en.length) (hd : decode M.2.1 pc = .ok (ins, len)) (hq : ai_call TY WR MT MG rec d M ins len pc lo sk en kn sb = some ss) (k : ∀ st ∈ ss, ai_G TY WR w0 ad M p l e R s m args below meth c D tys A b L sx cells slots Q r0 st) : ai_G TY WR w0 ad M p l e R s m args below meth c D tys A b L sx cells slots Q r0 (pc, lo, sk, en, kn, sb) := by
  unfold ai_call at hq
  split at hq
  · rename_i i
    obtain ⟨q, h1, hq⟩ := Option.bind_eq_some_iff.mp hq
    have h2 := List.find?_some h1
    have h2 := ai_beq.mp h2
    have h3 := hML q (List.mem_of_find?_eq_some h1)
    split at hq
    · rename_i hc
      split at hq
      · rename_i rv k0 hk0
        obtain ⟨t, ht, hq⟩ := Option.bind_eq_some_iff.mp hq
        split at hq
        · rename_i hc2
          unfold ai_lok at h3
          rw [hc.1] at h3
          obtain ⟨M', rr, m1, m2, m3, m4⟩ := h3
          intro r lv skc ws H locs ls hx g hP hD hS' hl
          obtain ⟨g1, g2, g3, g4, g5, g6, g7, g8⟩ := g
          have hsplit : sk = sk.take q.2.2.2.1 ++ (rv :: k0) := by rw [← hk0, List.take_append_drop]
          have g4' : ai_sk ad b r (sk.take q.2.2.2.1 ++ (rv :: k0)) skc := by rw [← hsplit]; exact g4
          obtain ⟨xs1, ys1, rfl, s1, s2⟩ := g4'.app
          obtain ⟨vr, rest, rfl, dr, s3⟩ := s2.cons
          obtain ⟨a, e1, w1, w2, w3⟩ := g5.get ht
          cases ai_ref0 dr hc2.1 w2
          rcases w3 with ⟨-, fs, rfl, -⟩ | ⟨q1, -⟩ | ⟨q1, -⟩ | ⟨q1, -⟩
          · rw [hc2.2.2] at w1
            refine ai_go_ok (vals := .ref a :: xs1.reverse) (rest := rest) hS hMT C hn hq k hx g1 g2 g3 ⟨dr, s1.rev⟩ s3 g5 g6 g7 g8 hP hD hS' hl (fun M2 Qc n1 n2 n3 n4 met => ?_)
            rw [m1] at n1
            cases n1
            have hlen : xs1.reverse.length = q.2.2.2.1 := by
              rw [List.length_reverse, s1.len, List.length_take]
              omega
            exact va_runV (C := rr.1) (As := xs1.reverse) (rest := rest) (Ts := ai_GT) (own := M.1.cls) ⟨C.1, C.2.1, C.2.2.1, C.2.2.2.1, C.2.2.2.2.1⟩ met (cwV q.2.2.2.1 C.2.2.2.2.1 (by rw [← h2]; exact m3) rfl rfl rfl m4 (ai_roomOK C n2 n3)) ⟨ai_PcB, va_recv C.2.2.2.2.2.2.1 hP m2 w1, ai_PcW C hS'⟩ rfl hlen hl.1 (by rw [List.reverse_reverse]) (lv_room n4) hd ⟨C.2.2.2.2.2.2.2.2.1.2.2.1, C.2.2.2.2.2.2.2.2.1.2.2.2⟩
          · omega
          · omega
          · omega
        · cases hq
      · cases hq
    · cases hq
  · rename_i i
    obtain ⟨q, h1, hq⟩ := Option.bind_eq_some_iff.mp hq
    have h2 := List.find?_some h1
    have h2 := ai_beq.mp h2
    have h3 := hML q (List.mem_of_find?_eq_some h1)
    have hrooms := C.2.2.2.2.2.2.2.2.1
    split at hq
    · rename_i hc
      intro r lv skc ws H locs ls hx g hP hD hS' hl
      obtain ⟨g1, g2, g3, g4, g5, g6, g7, g8⟩ := g
      have g4' : ai_sk ad b r (sk.take q.2.2.2.1 ++ sk.drop q.2.2.2.1) skc := by rw [List.take_append_drop]; exact g4
      obtain ⟨xs1, rest, rfl, s1, s3⟩ := g4'.app
      have hlen : xs1.reverse.length = q.2.2.2.1 := by
        rw [List.length_reverse, s1.len, List.length_take]
        omega
      refine ai_go_ok (vals := xs1.reverse) (rest := rest) hS hMT C hn hq k hx g1 g2 g3 s1.rev s3 g5 g6 g7 g8 hP hD hS' hl (fun M2 Qc n1 n2 n3 n4 met => ?_)
      unfold ai_lok at h3
      rcases hc.1 with hk | hk
      · rw [hk] at h3
        obtain ⟨M', m1, m3, m4⟩ := h3
        rw [m1] at n1
        cases n1
        exact va_runS (As := xs1.reverse) (rest := rest) (Ts := ai_GT) (own := M.1.cls) ⟨C.1, C.2.1, C.2.2.1, C.2.2.2.1, C.2.2.2.2.1⟩ met (va_cwS q.2.2.2.1 C.2.2.2.2.1 (by rw [← h2]; exact m3) rfl rfl rfl m4 (ai_roomOK C n2 n3)) ⟨ai_PcB, ai_PcW C hS'⟩ rfl hlen hl.1 (by rw [List.reverse_reverse]) (lv_room n4) hd ⟨hrooms.2.2.1, hrooms.2.2.2⟩
      · rw [hk] at h3
        obtain ⟨M', host, m1, m2, m3, m5, m6, m4⟩ := h3
        rw [m1] at n1
        cases n1
        rw [h2] at m2
        exact va_runSN (As := xs1.reverse) (rest := rest) (Ts := ai_GT) (own := M.1.cls) ⟨C.1, C.2.1, C.2.2.1, C.2.2.2.1, C.2.2.2.2.1⟩ met ⟨va_cnB q.2.2.2.1 C.2.2.2.2.1 m3 rfl rfl rfl (C.2.2.2.2.2.1.1 _ m2) (C.2.2.2.2.1 _ m6) m4 (ai_roomOK C n2 n3), C.2.2.2.2.1 _ m5, trivial⟩ ⟨ai_PcB, ai_PcW C hS'⟩ rfl hlen hl.1 (by rw [List.reverse_reverse]) (lv_room n4) hd ⟨hrooms.2.2.1, hrooms.2.2.2⟩
    · split at hq
      · rename_i hc
        unfold ai_lok at h3
        rw [hc.1] at h3
        obtain ⟨a1, a2, a3, a4⟩ := h3
        rw [h2] at a1
        exact ai_Jmm C ai_min_ok hn hq hc.2.2 (fun H locs ls rest i j hsz hsum kk => va_mmin C.1 C.2.1 (by rw [C.2.2.1, hsz]) C.2.2.2.1 (C.2.2.2.2.1 _ a1) (C.2.2.2.2.1 _ a2) (C.2.2.2.2.1 _ a3) (C.2.2.2.2.1 _ a4) (by omega) (by omega) hrooms.2.2.1 hrooms.2.2.2 hd kk) k
      · split at hq
        · rename_i hc
          unfold ai_lok at h3
          rw [hc.1] at h3
          obtain ⟨a1, a2, a3, a4⟩ := h3
          rw [h2] at a1
          exact ai_Jmm C ai_max_ok hn hq hc.2.2 (fun H locs ls rest i j hsz hsum kk => va_mmax C.1 C.2.1 (by rw [C.2.2.1, hsz]) C.2.2.2.1 (C.2.2.2.2.1 _ a1) (C.2.2.2.2.1 _ a2) (C.2.2.2.2.1 _ a3) (C.2.2.2.2.1 _ a4) (by omega) (by omega) hrooms.2.2.1 hrooms.2.2.2 hd kk) k
        · split at hq
          · rename_i hc
            unfold ai_lok at h3
            obtain ⟨z, hz⟩ : ∃ z, q.2.1 = z + 5 := ⟨q.2.1 - 5, by omega⟩
            rw [hz] at h3
            obtain ⟨a1, a2, a3, a4⟩ := h3
            rw [h2] at a1
            exact ai_ncp_ok C hc.2 a1 a2 a3 a4 hd hq k
          · cases hq
  · cases hq
end AIY
def ai_rs (n0 : Nat) (st : ai_s) : Nat → List (Nat × Nat × Nat × Int × Int × Bool × Bool) → List ai_h
  | _, [] => []
  | j, q :: t => (q.1, q.2.1, q.2.2.1, q.2.2.2.1, q.2.2.2.2.1, q.2.2.2.2.2.1, (if q.2.2.2.2.2.2 = true then (match ai_pv st (q.1, q.2.1, q.2.2.1, 0, 0, false, 0, 0) with
      | some v => (v.2.1, v.2.2.2)
      | none => (n0 + j, 0)) else (n0 + j, 0))) :: ai_rs n0 st (j + 1) t
def ai_nm (n0 : Nat) (k a i : Nat) : Nat → List (Nat × Nat × Nat × Int × Int × Bool × Bool) → Option ai_v
  | _, [] => none
  | j, q :: t => if q.1 = k ∧ q.2.1 = a ∧ q.2.2.1 = i then some (1, n0 + j, 0, 0) else ai_nm n0 k a i (j + 1) t
def ai_hlo (n0 : Nat) (a : ai_a) (lo : List (Nat × ai_v)) : List (Nat × ai_v) := (lo.filter fun q => !(a.2.1.contains q.1)).map fun q => (q.1, (ai_nm n0 0 q.1 0 0 a.1).elim q.2 fun v => (q.2.1, v.2))
def ai_hkn (n0 : Nat) (a : ai_a) (kn : List ai_k) : List ai_k := (kn.filter fun q => decide (ai_lk kn q.1 q.2.1 = some q.2.2) && !(a.2.2.1.any fun w => decide (w.1 = q.1) && decide (w.2.1 ≤ q.2.1) && decide (q.2.1 ≤ w.2.2))).map fun q => (q.1, q.2.1, (ai_nm n0 1 q.1 q.2.1 0 a.1).getD q.2.2)
def ai_isC (i : Instr) : Bool := match i with
  | .invokevirtual _ => true
  | .invokestatic _ => true
  | _ => false
def ai_isR (i : Instr) : Bool := match i with
  | .ireturn => true
  | .lreturn => true
  | .areturn => true
  | .return_ => true
  | _ => false
/-- the fixed tables of a walk: kinds of cells, what may be written, methods, loops, places where a local's values are told apart, methods whose walk is known -/
abbrev ai_K : Type := List ai_c × List (Nat × Nat × Nat) × List ai_m × List (Nat × Nat × Nat) × (Nat → ai_s → Option (List ai_s)) × List ai_g
def ai_one (K : ai_K) (rec : ai_R) (mid d : Nat) (M : ai_m) (ins : Instr) (len : Nat) (cu : List Nat) (st : ai_s) : Option (List ai_s) :=
  (if ai_isC ins = true then ai_call K.1 K.2.1 K.2.2.1 K.2.2.2.2.2 rec d M ins len st.1 st.2.1 st.2.2.1 st.2.2.2.1 st.2.2.2.2.1 st.2.2.2.2.2 else ai_nx K.1 K.2.1 M ins len st.1 st.2.1 st.2.2.1 st.2.2.2.1 st.2.2.2.2.1 st.2.2.2.2.2).bind (ai_all (rec mid M d cu))
def ai_spl (st : ai_s) (v : ai_v) (p : Int × Int) : List ai_s := (List.range ((p.2 - p.1).toNat + 1)).flatMap fun j => match ai_cl st.2.2.2.1 v.2.1 (p.1 + (j : Nat) - v.2.2.2) (p.1 + (j : Nat) - v.2.2.2) with
  | some en' => [(st.1, st.2.1, st.2.2.1, en', st.2.2.2.2.1, st.2.2.2.2.2)]
  | none => []
def ai_sp (st : ai_s) (i : Nat) : Option (List ai_s) := (ai_get st.2.1 i).bind fun v => (ai_i st.2.2.2.1 v).bind fun p => if p.1 = p.2 then none else some (ai_spl st v p)
/-- a list with its rows laid out, for the kernel's sake -/
noncomputable def ai_str {α β : Type} (l : List α) : (List α → β) → β := List.rec (motive := fun _ => (List α → β) → β) (fun k => k []) (fun h _ ih k => ih fun t => k (h :: t)) l
theorem ai_str_eq {α β : Type} (l : List α) : ∀ k : List α → β, ai_str l k = k l := by
  induction l with
  | nil => exact fun _ => rfl
  | cons h t ih => exact fun k => ih (fun t => k (h :: t))
noncomputable def ai_norm {β : Type} (st : ai_s) (k : ai_s → β) : β := ai_str st.2.1 fun lo => ai_str st.2.2.1 fun sk => ai_str st.2.2.2.1 fun en => ai_str st.2.2.2.2.1 fun kn => ai_str st.2.2.2.2.2 fun sb => k (st.1, lo, sk, en, kn, sb)
theorem ai_norm_eq {β : Type} (st : ai_s) (k : ai_s → β) : ai_norm st k = k st := by
  unfold ai_norm
  rw [ai_str_eq, ai_str_eq, ai_str_eq, ai_str_eq, ai_str_eq]
/-- states that come to one place become one: what is old and alike stays, numbers that differ get a new name, all else is forgotten -/
def jn_t (n0 : Nat) (ys : List ai_s) (q : Nat × ai_v) : Nat :=
  if ((decide (q.2.1 = 0) || decide (q.2.1 = 4) || (decide (q.2.2.1 < n0) && decide (q.2.2.2.1 < n0))) && ys.all fun y => decide (ai_get y.2.1 q.1 = some q.2)) = true then 0
  else if ((decide (q.2.1 = 1) || decide (q.2.1 = 2)) && ys.all fun y => (ai_get y.2.1 q.1).any fun w => decide (w.1 = q.2.1)) = true then 1 else 2
def jn_h (n0 : Nat) (ys : List ai_s) : Nat → List (Nat × ai_v) → List ai_h
  | _, [] => []
  | j, q :: t => if Nat.beq (jn_t n0 ys q) 1 = true then (0, q.1, 0, (ai_hu ys fun y => ai_get y.2.1 q.1).1, (ai_hu ys fun y => ai_get y.2.1 q.1).2, false, n0 + j, 0) :: jn_h n0 ys (j + 1) t else jn_h n0 ys j t
def jn_o (n0 : Nat) (ys : List ai_s) : Nat → List (Nat × ai_v) → List (Nat × ai_v)
  | _, [] => []
  | j, q :: t => if Nat.beq (jn_t n0 ys q) 0 = true then q :: jn_o n0 ys j t else if Nat.beq (jn_t n0 ys q) 1 = true then (q.1, (q.2.1, n0 + j, 0, 0)) :: jn_o n0 ys (j + 1) t else jn_o n0 ys j t
def jn_q (n0 : Nat) (ys : List ai_s) (q : ai_k) : Bool := decide (q.2.2.2.1 < n0) && decide (q.2.2.2.2.1 < n0) && ys.all fun x => decide (ai_lk x.2.2.2.2.1 q.1 q.2.1 = some q.2.2)
def jn_p (n0 : Nat) (ys : List ai_s) (kn : List ai_k) : List (Nat × Nat) := (kn.filter fun q => decide (ai_lk kn q.1 q.2.1 = some q.2.2) && !jn_q n0 ys q).map fun q => (q.1, q.2.1)
def jn_1 (go : ai_s → Option (List ai_s)) (tgt : Nat) (st : ai_s) (zs ys : List ai_s) (hs : List ai_h) (lo' : List (Nat × ai_v)) (kn' : List ai_k) : Option (List ai_s) :=
  if (ys.all fun y => ai_lq st.2.2.2.1.length hs (tgt, lo', [], st.2.2.2.1 ++ hs.map ai_en, kn', st.2.2.2.2.2) y) = true then
    (go (tgt, lo', [], st.2.2.2.1 ++ hs.map ai_en, kn', st.2.2.2.2.2)).map fun as => as ++ zs else none
noncomputable def ai_jn (one : List Nat → ai_s → Option (List ai_s)) (go : ai_s → Option (List ai_s)) (tgt : Nat) (cu : List Nat) (st : ai_s) : Option (List ai_s) :=
  (one (tgt :: cu) st).bind fun xs => ai_str (xs.filter fun x => Nat.beq x.1 tgt) fun ys => match ys with
    | [] => some xs
    | y0 :: t => ai_str (jn_h st.2.2.2.1.length (y0 :: t) 0 y0.2.1) fun h1 => ai_str (ai_ki st.2.2.2.1.length st.2.2.2.2.1 (y0 :: t) h1.length (jn_p st.2.2.2.1.length (y0 :: t) y0.2.2.2.2.1)) fun hk =>
      jn_1 go tgt st (xs.filter fun x => !Nat.beq x.1 tgt) (y0 :: t) (h1 ++ hk) (jn_o st.2.2.2.1.length (y0 :: t) 0 y0.2.1) (ai_kk st.2.2.2.1.length h1.length hk ++ y0.2.2.2.2.1.filter (jn_q st.2.2.2.1.length (y0 :: t)))
noncomputable def ai_body0 (K : ai_K) (rec : ai_R) : ai_R := fun mid M d cu st =>
  if cu.any (fun c => Nat.beq c st.1) = true then some [st] else
  match (if (Nat.beq st.1 0 && Nat.ble (ai_gd mid) d) = true then K.2.2.2.2.1 mid st else none) with
  | some xs => some xs
  | none => (M.2.2.2.2.2.1.find? fun q => Nat.beq q.1 st.1).bind fun q =>
    if ai_isR q.2.1 = true then some [(q.1, st.2)]
    else if 1 < st.2.2.2.1.length ∧ ai_z st.2.2.2.1 = true then
      (match (if M.2.2.2.2.1 = true then none else M.2.2.2.2.2.2.2.2.2.2.2.find? fun a => Nat.beq a.1 q.1) with
      | some a => ai_lp (ai_one K rec mid d M q.2.1 q.2.2) cu (q.1, st.2) (ai_rs st.2.2.2.1.length st 0 a.2.1) (ai_hlo st.2.2.2.1.length a.2 st.2.1) (ai_hkn st.2.2.2.1.length a.2 st.2.2.2.2.1) a.2.2.2.2.1 a.2.2.2.2.2
      | none => (match (K.2.2.2.1.find? fun a => Nat.beq a.2.1 q.1 && Nat.beq a.1 mid) with
        | some a => if (Nat.ble 1000 a.2.2 && !M.2.2.2.2.1) = true then ai_jn (ai_one K rec mid d M q.2.1 q.2.2) (rec mid M d cu) (a.2.2 - 1000) cu (q.1, st.2)
          else (match ai_sp (q.1, st.2) a.2.2 with
            | some zs => ai_all (rec mid M d cu) zs
            | none => ai_one K rec mid d M q.2.1 q.2.2 cu (q.1, st.2))
        | none => ai_one K rec mid d M q.2.1 q.2.2 cu (q.1, st.2)))
    else none
noncomputable def ai_body (K : ai_K) (rec : ai_R) : ai_R := fun mid M d cu st => ai_norm st (ai_body0 K rec mid M d cu)
noncomputable def ai_ex (K : ai_K) (n : Nat) : ai_R := Nat.rec (fun _ _ _ _ _ => none) (fun _ rec => ai_body K rec) n
section AIZ
variable {TY : List ai_c} {WR : List (Nat × Nat × Nat)} {w0 : va_W} {ad : List Nat} {M : ai_m} {d : Nat} {p : Program} {l : Launch} {e : Env} {R : Room} {s : State} {m : MethodId} {args : Array Value} {below : List Frame} {meth : Method} {c : Code} {D : va_G} {tys : ai_ty} {A : Nat → Prop} {b L : Nat} {sx : Nat → Int32} {cells slots : Nat} {Q : State → Prop} {r0 : List Int} {K : ai_K} {rec : ai_R}
theorem ai_one_ok (hS : ai_SR K.1 K.2.1 K.2.2.1 rec) (hMT : ∀ M ∈ K.2.2.1, (ai_mok M ∧ plainName M.1.cls = true) ∧ ∀ q ∈ M.2.2.2.2.2.2.2.2.2.2.1, ai_lok K.2.2.1 M.1.cls q) {mid : Nat} (hM : K.2.2.1[mid]? = some M) (C : ai_cx M d p R s m args c D tys A b L sx cells slots) {ins : Instr} {len : Nat} {cu : List Nat} {st : ai_s} {ss : List ai_s} (hn : 1 < st.2.2.2.1.length) (hz : ai_z st.2.2.2.1 = true) (hd : decode M.2.1 st.1 = .ok (ins, len)) (hq : ai_one K rec mid d M ins len cu st = some ss)
    (k : ∀ z ∈ ss, ai_G K.1 K.2.1 w0 ad M p l e R s m args below meth c D tys A b L sx cells slots Q r0 z) : ai_G K.1 K.2.1 w0 ad M p l e R s m args below meth c D tys A b L sx cells slots Q r0 st := by
  obtain ⟨⟨hok, hpl⟩, hML⟩ := hMT M (List.mem_of_getElem? hM)
  unfold ai_one at hq
  obtain ⟨zs, h1, h2⟩ := Option.bind_eq_some_iff.mp hq
  have kz : ∀ z ∈ zs, ai_G K.1 K.2.1 w0 ad M p l e R s m args below meth c D tys A b L sx cells slots Q r0 z := fun z hz => by
    obtain ⟨a, a1, a2⟩ := ai_all_ok h2 z hz
    exact hS mid d cu z a M a1 hM C (fun x hx => k x (a2 x hx))
  split at h1
  · exact ai_call_ok hS (fun M hM => (hMT M hM).1) hML C hn hd h1 kz
  · exact ai_nx_ok C hok hn hz hd h1 kz
theorem ai_sp_ok {i : Nat} {st : ai_s} {zs : List ai_s} (hq : ai_sp st i = some zs) (k : ∀ z ∈ zs, ai_G TY WR w0 ad M p l e R s m args below meth c D tys A b L sx cells slots Q r0 z) : ai_G TY WR w0 ad M p l e R s m args below meth c D tys A b L sx cells slots Q r0 st := by
  unfold ai_sp at hq
  obtain ⟨v, h1, hq⟩ := Option.bind_eq_some_iff.mp hq
  obtain ⟨q, h2, hq⟩ := Option.bind_eq_some_iff.mp hq
  split at hq
  · cases hq
  · injection hq with hq
    subst hq
    intro r lv skc ws H locs ls hx g hP hD hS hl
    obtain ⟨g1, g2, g3, g4, g5, g6, g7, g8⟩ := g
    obtain ⟨n, w, a1, a2⟩ := ai_get_ok g3 h1
    obtain ⟨-, z, i32, i1, rfl, i3, i4, i5⟩ := ai_i_ok g1 a2 h2
    obtain ⟨en1, c1, c2⟩ := ai_cl_ok (lo := q.1 + ((i32.toInt - q.1).toNat : Nat) - v.2.2.2) (hi := q.1 + ((i32.toInt - q.1).toNat : Nat) - v.2.2.2) g1 i1 (by omega) (by omega)
    have hm : ((st.1, st.2.1, st.2.2.1, en1, st.2.2.2.2.1, st.2.2.2.2.2) : ai_s) ∈ ai_spl st v q := by
      unfold ai_spl
      refine List.mem_flatMap.mpr ⟨(i32.toInt - q.1).toNat, List.mem_range.mpr (by omega), ?_⟩
      rw [c1]
      exact List.mem_singleton.mpr rfl
    exact k _ hm r lv skc ws H locs ls hx ⟨c2, g2, g3, g4, g5, g6, g7, g8⟩ hP hD hS hl
theorem ai_jn_ok {one : List Nat → ai_s → Option (List ai_s)} {go : ai_s → Option (List ai_s)} {tgt : Nat} {cu : List Nat} {st : ai_s} {ys : List ai_s} (hone : ∀ (xs : List ai_s) (r1 : List Int), one (tgt :: cu) st = some xs → (∀ x ∈ xs, ai_G TY WR w0 ad M p l e R s m args below meth c D tys A b L sx cells slots Q r1 x) → ai_G TY WR w0 ad M p l e R s m args below meth c D tys A b L sx cells slots Q r1 st) (hgo : ∀ (I : ai_s) (as : List ai_s) (r1 : List Int), go I = some as → (∀ x ∈ as, ai_G TY WR w0 ad M p l e R s m args below meth c D tys A b L sx cells slots Q r1 x) → ai_G TY WR w0 ad M p l e R s m args below meth c D tys A b L sx cells slots Q r1 I) (hn : 1 < st.2.2.2.1.length) (h8 : M.2.2.2.2.1 = true → 8 ≤ st.2.2.2.1.length) (hq : ai_jn one go tgt cu st = some ys) (k : ∀ x ∈ ys, ai_G TY WR w0 ad M p l e R s m args below meth c D tys A b L sx cells slots Q r0 x) : ai_G TY WR w0 ad M p l e R s m args below meth c D tys A b L sx cells slots Q r0 st := by
  unfold ai_jn at hq
  obtain ⟨xs, hxs, hq⟩ := Option.bind_eq_some_iff.mp hq
  rw [ai_str_eq] at hq
  split at hq
  · injection hq with hq
    subst hq
    exact hone xs r0 hxs k
  · rename_i y0 t hf
    rw [ai_str_eq, ai_str_eq] at hq
    obtain ⟨hs, lo', kn', hq⟩ : ∃ (hs : List ai_h) (lo' : List (Nat × ai_v)) (kn' : List ai_k), jn_1 go tgt st (xs.filter fun x => !Nat.beq x.1 tgt) (y0 :: t) hs lo' kn' = some ys := ⟨_, _, _, hq⟩
    unfold jn_1 at hq
    split at hq
    · rename_i hall
      obtain ⟨as, has, hq⟩ := Option.map_eq_some_iff.mp hq
      subst hq
      intro r lv skc ws H locs ls hx g hP hD hS hl
      refine hone xs r hxs (fun x hxx => ?_) r lv skc ws H locs ls ai_x.rf g hP hD hS hl
      by_cases hpc : x.1 = tgt
      · have hxy : x ∈ y0 :: t := by
          rw [← hf]
          exact List.mem_filter.mpr ⟨hxx, ai_beq.mpr hpc⟩
        have hlq := List.all_eq_true.mp hall x hxy
        intro r1 lv1 sk1 ws1 H1 locs1 ls1 hx1 g2 hP1 hD1 hS1 hl1
        obtain ⟨t1, rfl⟩ := hx1
        obtain ⟨vs', lv', a1, a2, a3, a4, -⟩ := ai_lq_ok (I := (tgt, lo', [], st.2.2.2.1 ++ hs.map ai_en, kn', st.2.2.2.2.2)) rfl rfl g.1 rfl hn h8 g.2.1 g2 hlq
        subst a3
        rw [hpc]
        exact hgo _ as (r ++ vs') has (fun z hz => (k z (List.mem_append.mpr (Or.inl hz))).up (hx.tr ⟨vs', rfl⟩)) (r ++ vs') lv' [] ws1 H1 locs1 ls1 ai_x.rf a2 hP1 hD1 hS1 ⟨hl1.1, hl1.2.1, fun q hq => hl1.2.2 q (a4 q hq)⟩
      · refine (k x (List.mem_append.mpr (Or.inr (List.mem_filter.mpr ⟨hxx, ?_⟩)))).up hx
        rw [Bool.not_eq_true']
        exact Bool.eq_false_iff.mpr (fun h => hpc (ai_beq.mp h))
    · cases hq
/-- the methods whose walk is known -/
def ai_SU (K : ai_K) : Prop := ai_SR K.1 K.2.1 K.2.2.1 (fun mid _ d _ st => if (Nat.beq st.1 0 && Nat.ble (ai_gd mid) d) = true then K.2.2.2.2.1 mid st else none)
theorem ai_body_ok (hU : ai_SU K) (hS : ai_SR K.1 K.2.1 K.2.2.1 rec) (hMT : ∀ M ∈ K.2.2.1, (ai_mok M ∧ plainName M.1.cls = true) ∧ ∀ q ∈ M.2.2.2.2.2.2.2.2.2.2.1, ai_lok K.2.2.1 M.1.cls q) : ai_SR K.1 K.2.1 K.2.2.1 (ai_body K rec) := by
  intro mid d cu st ys M hq hM w0 ad p l e R s m args below meth c D tys A b L sx cells slots Q r0 C k
  unfold ai_body at hq
  rw [ai_norm_eq] at hq
  unfold ai_body0 at hq
  split at hq
  · injection hq with hq
    subst hq
    exact k _ (List.mem_singleton.mpr rfl)
  · split at hq
    · rename_i xs hxs
      injection hq with hq
      subst hq
      exact hU mid d cu st xs M hxs hM C k
    · obtain ⟨q, h1, hq⟩ := Option.bind_eq_some_iff.mp hq
      have h2 := List.find?_some h1
      have h2 := ai_beq.mp h2
      have hd := (hMT M (List.mem_of_getElem? hM)).1.1.1 q (List.mem_of_find?_eq_some h1)
      have est : ((q.1, st.2) : ai_s) = st := by rw [h2]
      split at hq
      · injection hq with hq
        subst hq
        rw [← est]
        exact k _ (List.mem_singleton.mpr rfl)
      · split at hq
        · rename_i hc
          split at hq
          · rename_i a ha
            rw [← est]
            exact ai_lp_ok (st := (q.1, st.2)) (fun xs r1 hxs kx => ai_one_ok hS hMT hM C (by
                show 1 < (st.2.2.2.1 ++ _).length
                rw [List.length_append]
                have := hc.1
                omega) (by
                show ai_z (st.2.2.2.1 ++ _) = true
                have hz := hc.2
                unfold ai_z at hz ⊢
                rw [List.getElem?_append_left (by have := hc.1; omega)]
                exact hz) hd hxs kx) hc.1 (fun hsc => by rw [if_pos hsc] at ha; cases ha) hq k
          · split at hq
            · split at hq
              · rename_i hj
                rw [Bool.and_eq_true, Bool.not_eq_true'] at hj
                rw [← est]
                exact ai_jn_ok (st := (q.1, st.2)) (fun xs r1 hxs kx => ai_one_ok (st := (q.1, st.2)) hS hMT hM C hc.1 hc.2 hd hxs kx) (fun I as r1 has kx => hS mid d cu I as M has hM C kx) hc.1 (fun hsc => by rw [hj.2] at hsc; cases hsc) hq k
              · split at hq
                · rename_i zs hz2
                  rw [← est]
                  refine ai_sp_ok hz2 (fun z hz => ?_)
                  obtain ⟨a', a1, a2⟩ := ai_all_ok hq z hz
                  exact hS mid d cu z a' M a1 hM C (fun x hx => k x (a2 x hx))
                · rw [← est]
                  exact ai_one_ok (st := (q.1, st.2)) hS hMT hM C hc.1 hc.2 hd hq k
            · rw [← est]
              exact ai_one_ok (st := (q.1, st.2)) hS hMT hM C hc.1 hc.2 hd hq k
        · cases hq
theorem ai_ex_ok (hU : ai_SU K) (hMT : ∀ M ∈ K.2.2.1, (ai_mok M ∧ plainName M.1.cls = true) ∧ ∀ q ∈ M.2.2.2.2.2.2.2.2.2.2.1, ai_lok K.2.2.1 M.1.cls q) : ∀ n, ai_SR K.1 K.2.1 K.2.2.1 (ai_ex K n)
  | 0 => fun mid d cu st ys M hq => by cases hq
  | n + 1 => ai_body_ok hU (ai_ex_ok hU hMT n) hMT
end AIZ
end
section
/-! the tables of this class and of the reference -/
def tb_TY : List ai_c := [(0, 5, [(0, 1, 0, 0), (0, 7, 0, 0), (0, 13, 0, 0), (0, 19, 0, 0), (0, 25, 0, 0), (0, 26, 0, 0), (0, 34, 0, 0), (0, 39, 0, 0), (0, 41, 0, 0), (1, 0, (-2147483648), 2147483647), (1, 0, (-2147483648), 2147483647)]),
  (0, 0, [(1, 0, 0, 4), (1, 0, 0, 20), (1, 0, (-2147483648), 2147483647), (1, 0, 0, 8), (0, 2, 0, 0), (0, 3, 0, 0), (0, 4, 0, 0), (0, 5, 0, 0), (0, 6, 0, 0)]),
  (1, 4, [(1, 0, (-2147483648), 2147483647)]),
  (1, 4, [(1, 0, 0, 99)]),
  (1, 4, [(1, 0, 0, 99)]),
  (1, 4, [(1, 0, 0, 99)]),
  (1, 8, [(1, 0, (-2147483648), 2147483647)]),
  (0, 0, [(1, 0, 0, 4), (1, 0, 0, 20), (1, 0, (-2147483648), 2147483647), (1, 0, 0, 8), (0, 8, 0, 0), (0, 9, 0, 0), (0, 10, 0, 0), (0, 11, 0, 0), (0, 12, 0, 0)]),
  (1, 4, [(1, 0, (-2147483648), 2147483647)]),
  (1, 4, [(1, 0, 0, 99)]),
  (1, 4, [(1, 0, 0, 99)]),
  (1, 4, [(1, 0, 0, 99)]),
  (1, 8, [(1, 0, (-2147483648), 2147483647)]),
  (0, 0, [(1, 0, 0, 4), (1, 0, 0, 20), (1, 0, (-2147483648), 2147483647), (1, 0, 0, 8), (0, 14, 0, 0), (0, 15, 0, 0), (0, 16, 0, 0), (0, 17, 0, 0), (0, 18, 0, 0)]),
  (1, 4, [(1, 0, (-2147483648), 2147483647)]),
  (1, 4, [(1, 0, 0, 99)]),
  (1, 4, [(1, 0, 0, 99)]),
  (1, 4, [(1, 0, 0, 99)]),
  (1, 8, [(1, 0, (-2147483648), 2147483647)]),
  (0, 0, [(1, 0, 0, 4), (1, 0, 0, 20), (1, 0, (-2147483648), 2147483647), (1, 0, 0, 8), (0, 20, 0, 0), (0, 21, 0, 0), (0, 22, 0, 0), (0, 23, 0, 0), (0, 24, 0, 0)]),
  (1, 4, [(1, 0, (-2147483648), 2147483647)]),
  (1, 4, [(1, 0, 0, 99)]),
  (1, 4, [(1, 0, 0, 99)]),
  (1, 4, [(1, 0, 0, 99)]),
  (1, 8, [(1, 0, (-2147483648), 2147483647)]),
  (2, 2, [(1, 0, 0, 1)]),
  (0, 2, [(0, 27, 0, 0), (1, 0, 0, 160), (0, 28, 0, 0), (1, 0, (-2147483648), 2147483647), (1, 0, (-2147483648), 2147483647), (1, 0, (-2147483648), 2147483647), (1, 0, (-2147483648), 2147483647), (1, 0, 0, 160), (1, 0, 0, 4), (1, 0, 0, 160), (1, 0, (-2147483648), 2147483647)]),
  (1, 160, [(1, 0, 0, 127)]),
  (0, 0, [(1, 0, 0, 4), (1, 0, 0, 20), (1, 0, (-2147483648), 2147483647), (1, 0, 0, 8), (0, 29, 0, 0), (0, 30, 0, 0), (0, 31, 0, 0), (0, 32, 0, 0), (0, 33, 0, 0)]),
  (1, 4, [(1, 0, (-2147483648), 2147483647)]),
  (1, 4, [(1, 0, 0, 99)]),
  (1, 4, [(1, 0, 0, 99)]),
  (1, 4, [(1, 0, 0, 99)]),
  (1, 8, [(1, 0, (-2147483648), 2147483647)]),
  (0, 4, [(1, 0, 0, 6), (0, 35, 0, 0), (0, 36, 0, 0), (0, 37, 0, 0), (0, 38, 0, 0)]),
  (1, 6, [(1, 0, (-2147483648), 2147483647)]),
  (1, 6, [(1, 0, (-2147483648), 2147483647)]),
  (1, 6, [(1, 0, (-2147483648), 2147483647)]),
  (1, 6, [(1, 0, (-2147483648), 2147483647)]),
  (0, 1, [(0, 40, 0, 0), (2, 0, 0, 0), (1, 0, 0, 99)]),
  (3, 100, []),
  (0, 3, [(0, 42, 0, 0), (0, 43, 0, 0), (0, 44, 0, 0)]),
  (1, 4, [(1, 0, (-2147483648), 2147483647)]),
  (1, 4, [(1, 0, 0, 40)]),
  (4, 4, [(0, 45, 0, 0), (0, 46, 0, 0), (0, 47, 0, 0), (0, 48, 0, 0)]),
  (1, 40, [(1, 0, (-2147483648), 2147483647)]),
  (1, 40, [(1, 0, (-2147483648), 2147483647)]),
  (1, 40, [(1, 0, (-2147483648), 2147483647)]),
  (1, 40, [(1, 0, (-2147483648), 2147483647)]),
  (0, 6, [(0, 50, 0, 0), (1, 0, 0, 4), (0, 51, 0, 0), (1, 0, 0, 4), (1, 0, (-2147483648), 2147483647), (1, 0, (-2147483648), 2147483647), (0, 52, 0, 0), (1, 0, 0, 160), (1, 0, (-2147483648), 2147483647), (1, 0, (-2147483648), 2147483647), (1, 0, (-2147483648), 2147483647), (1, 0, 0, 160), (1, 0, 0, 160), (1, 0, (-2147483648), 2147483647), (1, 0, (-2147483648), 2147483647), (0, 53, 0, 0), (0, 54, 0, 0), (1, 0, (-2147483648), 2147483647), (0, 55, 0, 0), (1, 0, 0, 6), (0, 56, 0, 0), (0, 57, 0, 0), (0, 58, 0, 0), (0, 59, 0, 0), (1, 0, (-2147483648), 2147483647)]),
  (1, 162, [(1, 0, (-2147483648), 2147483647), (1, 0, (-2147483648), 2147483647), (1, 0, (-2147483648), 2147483647), (1, 0, (-2147483648), 2147483647), (1, 0, (-2147483648), 2147483647), (1, 0, (-2147483648), 2147483647), (1, 0, (-2147483648), 2147483647), (1, 0, (-2147483648), 2147483647), (1, 0, (-2147483648), 2147483647), (1, 0, (-2147483648), 2147483647), (1, 0, (-2147483648), 2147483647), (1, 0, (-2147483648), 2147483647), (1, 0, (-2147483648), 2147483647), (1, 0, (-2147483648), 2147483647), (1, 0, (-2147483648), 2147483647), (1, 0, (-2147483648), 2147483647), (1, 0, (-10), 10), (1, 0, (-2147483648), 2147483647), (1, 0, 0, 4), (1, 0, 0, 4), (1, 0, 0, 4), (1, 0, 0, 4), (1, 0, 0, 4), (1, 0, 0, 4), (1, 0, 0, 4), (1, 0, 0, 4), (1, 0, 0, 8)]),
  (1, 27, [(1, 0, (-2147483648), 2147483647), (1, 0, (-2147483648), 2147483647), (1, 0, (-2147483648), 2147483647), (1, 0, (-2147483648), 2147483647), (1, 0, (-2147483648), 2147483647), (1, 0, (-2147483648), 2147483647), (1, 0, (-2147483648), 2147483647), (1, 0, (-2147483648), 2147483647), (1, 0, (-2147483648), 2147483647), (1, 0, (-2147483648), 2147483647), (1, 0, (-2147483648), 2147483647), (1, 0, (-2147483648), 2147483647), (1, 0, (-2147483648), 2147483647), (1, 0, (-2147483648), 2147483647), (1, 0, (-2147483648), 2147483647), (1, 0, (-2147483648), 2147483647), (1, 0, (-10), 10), (1, 0, (-2147483648), 2147483647), (1, 0, 0, 4), (1, 0, 0, 4), (1, 0, 0, 4), (1, 0, 0, 4), (1, 0, 0, 4), (1, 0, 0, 4), (1, 0, 0, 4), (1, 0, 0, 4), (1, 0, 0, 8)]),
  (1, 160, [(1, 0, 0, 127)]),
  (1, 8, [(1, 0, 0, 0), (1, 0, 5, 5), (1, 0, 10, 10), (1, 0, 13, 13), (1, 0, 16, 16), (1, 0, 21, 21), (1, 0, 27, 27), (1, 0, 31, 31)]),
  (1, 31, [(1, 0, 112, 112), (1, 0, 108, 108), (1, 0, 97, 97), (1, 0, 105, 105), (1, 0, 110, 110), (1, 0, 115, 115), (1, 0, 110, 110), (1, 0, 97, 97), (1, 0, 107, 107), (1, 0, 101, 101), (1, 0, 115, 115), (1, 0, 101, 101), (1, 0, 97, 97), (1, 0, 97, 97), (1, 0, 103, 103), (1, 0, 101, 101), (1, 0, 103, 103), (1, 0, 117, 117), (1, 0, 101, 101), (1, 0, 115, 115), (1, 0, 116, 116), (1, 0, 108, 108), (1, 0, 97, 97), (1, 0, 117, 117), (1, 0, 103, 103), (1, 0, 104, 104), (1, 0, 115, 115), (1, 0, 112, 112), (1, 0, 108, 108), (1, 0, 97, 97), (1, 0, 110, 110)]),
  (1, 24, [(1, 0, (-2147483648), 2147483647)]),
  (2, 2, [(1, 0, 0, 1)]),
  (1, 4, [(1, 0, (-2147483648), 2147483647)]),
  (1, 4, [(1, 0, 0, 40)]),
  (1, 160, [(1, 0, (-2147483648), 2147483647)])]
def tb_WR : List (Nat × Nat × Nat) := [(1000, 0, 1000)]
def tb_fl_RX0 : List (Nat × Nat × Nat) := [(9, 0, 1), (15, 0, 4), (19, 0, 5), (22, 0, 6), (25, 0, 7), (28, 0, 8), (31, 0, 0), (34, 0, 2), (37, 0, 3)]
def tb_fp_RX0 : List (Nat × Nat × Nat × Nat) := [(9, 0, 1, 1), (31, 0, 0, 1), (34, 0, 2, 1), (37, 0, 3, 1)]
def tb_ci_RX0 : List (Nat × Int) := []
def tb_cl_RX0 : List (Nat × Int) := []
def tb_ml_RX0 : List ai_l5 := [(40, 5, 0, 5, 0), (46, 0, 4, 1, 0), (50, 0, 5, 0, 0), (54, 1, 170, 1, 0), (60, 0, 10, 1, 0), (68, 0, 2, 1, 0), (71, 0, 11, 1, 0), (74, 3, 0, 2, 0), (80, 0, 14, 0, 0), (83, 0, 12, 1, 0), (86, 0, 13, 1, 0), (89, 0, 15, 1, 0), (64, 2, 96, 3, 0)]
def tb_fl_RX1 : List (Nat × Nat × Nat) := [(9, 1, 0), (15, 0, 5), (21, 1, 2), (25, 0, 6), (28, 1, 1), (32, 0, 7), (35, 0, 1), (38, 0, 4)]
def tb_fp_RX1 : List (Nat × Nat × Nat × Nat) := [(21, 1, 2, 1), (28, 1, 1, 2), (35, 0, 1, 1)]
def tb_ci_RX1 : List (Nat × Int) := []
def tb_cl_RX1 : List (Nat × Int) := [(55, 10), (61, (-1))]
def tb_ml_RX1 : List ai_l5 := [(45, 0, 19, 2, 1), (49, 3, 0, 2, 0), (57, 1, 23, 2, 0), (41, 2, 96, 3, 0)]
def tb_fl_RX2 : List (Nat × Nat × Nat) := [(11, 2, 0), (18, 2, 2), (22, 2, 1), (29, 2, 3), (32, 2, 4), (35, 2, 5), (38, 2, 6), (41, 2, 7), (47, 2, 8), (68, 2, 9), (78, 0, 0), (85, 2, 10), (91, 0, 5), (94, 0, 6), (97, 0, 7), (106, 0, 1), (109, 0, 2), (112, 0, 3), (115, 0, 8)]
def tb_fp_RX2 : List (Nat × Nat × Nat × Nat) := [(22, 2, 1, 1), (29, 2, 3, 1), (32, 2, 4, 1), (35, 2, 5, 1), (38, 2, 6, 1), (41, 2, 7, 1), (47, 2, 8, 1), (68, 2, 9, 1), (78, 0, 0, 1), (85, 2, 10, 1), (106, 0, 1, 1), (109, 0, 2, 1), (112, 0, 3, 1)]
def tb_ci_RX2 : List (Nat × Int) := []
def tb_cl_RX2 : List (Nat × Int) := []
def tb_ml_RX2 : List ai_l5 := [(26, 0, 0, 0, 0), (44, 0, 34, 0, 2), (50, 0, 26, 0, 2), (53, 0, 30, 0, 2), (57, 0, 33, 2, 2), (61, 0, 37, 0, 2), (65, 0, 32, 0, 2), (71, 0, 27, 1, 2), (75, 0, 28, 1, 2), (81, 0, 31, 2, 2), (88, 0, 3, 2, 0), (103, 0, 29, 0, 2), (118, 0, 2, 1, 0), (126, 0, 35, 2, 2), (130, 0, 36, 0, 2), (100, 2, 95, 2, 0), (122, 2, 94, 3, 0)]
def tb_fl_RX3 : List (Nat × Nat × Nat) := [(11, 3, 0), (15, 3, 1), (20, 3, 2)]
def tb_fp_RX3 : List (Nat × Nat × Nat × Nat) := []
def tb_ci_RX3 : List (Nat × Int) := []
def tb_cl_RX3 : List (Nat × Int) := []
def tb_ml_RX3 : List ai_l5 := [(23, 0, 39, 1, 3), (27, 0, 41, 2, 3)]
def tb_fl_RX4 : List (Nat × Nat × Nat) := [(11, 4, 1), (15, 4, 2), (18, 4, 3), (21, 4, 4), (24, 4, 0)]
def tb_fp_RX4 : List (Nat × Nat × Nat × Nat) := [(24, 4, 0, 1)]
def tb_ci_RX4 : List (Nat × Int) := []
def tb_cl_RX4 : List (Nat × Int) := []
def tb_ml_RX4 : List ai_l5 := [(28, 2, 97, 3, 0)]
def tb_fl_RX5 : List (Nat × Nat × Nat) := [(10, 5, 0), (16, 5, 1), (19, 5, 2), (22, 5, 3), (25, 5, 4), (32, 5, 5), (39, 5, 6), (46, 5, 7), (53, 5, 8), (65, 2, 1), (72, 2, 5), (75, 5, 9), (78, 2, 6), (81, 2, 2), (88, 4, 0), (91, 2, 4), (94, 0, 0), (97, 0, 1), (100, 0, 2), (103, 0, 3), (116, 0, 4), (120, 0, 5), (123, 0, 6), (126, 0, 7), (133, 0, 8), (254, 3, 2), (258, 5, 10), (264, 3, 1)]
def tb_fp_RX5 : List (Nat × Nat × Nat × Nat) := [(65, 2, 1, 1), (72, 2, 5, 1), (75, 5, 9, 1), (78, 2, 6, 1), (88, 4, 0, 1), (91, 2, 4, 1), (94, 0, 0, 1), (97, 0, 1, 1), (100, 0, 2, 1), (103, 0, 3, 1), (258, 5, 10, 1)]
def tb_ci_RX5 : List (Nat × Int) := [(235, 1103515245)]
def tb_cl_RX5 : List (Nat × Int) := [(190, (-1))]
def tb_ml_RX5 : List ai_l5 := [(57, 1, 94, 3, 0), (61, 0, 24, 1, 2), (69, 0, 25, 0, 2), (84, 0, 1, 1, 0), (106, 0, 5, 0, 0), (110, 0, 7, 0, 0), (113, 0, 2, 1, 0), (129, 0, 11, 1, 0), (136, 1, 55, 5, 0), (140, 0, 54, 2, 5), (144, 0, 12, 1, 0), (147, 0, 13, 1, 0), (150, 0, 14, 0, 0), (153, 0, 16, 0, 0), (156, 0, 17, 3, 0), (160, 1, 66, 2, 0), (164, 0, 68, 1, 5), (167, 0, 70, 3, 5), (170, 0, 69, 2, 5), (174, 0, 6, 0, 0), (177, 0, 15, 1, 0), (180, 0, 73, 2, 5), (183, 0, 75, 1, 5), (186, 0, 78, 4, 5), (192, 0, 18, 4, 1), (196, 0, 20, 0, 1), (200, 0, 22, 2, 1), (204, 0, 21, 0, 1), (207, 0, 44, 4, 4), (210, 0, 45, 1, 4), (213, 1, 170, 1, 0), (218, 1, 83, 3, 0), (221, 1, 95, 2, 0), (224, 1, 96, 3, 0), (227, 1, 97, 3, 0), (230, 4, 0, 2, 0), (236, 0, 88, 1, 5), (240, 1, 38, 1, 0), (241, 0, 40, 3, 3), (245, 0, 41, 2, 3), (248, 0, 43, 3, 3), (251, 0, 42, 3, 3), (261, 0, 39, 1, 3), (266, 0, 8, 0, 0), (269, 0, 9, 0, 0)]
def tb_fl_RX6 : List (Nat × Nat × Nat) := [(7, 6, 0), (13, 6, 2), (16, 6, 6), (19, 6, 15), (22, 6, 16), (25, 6, 18), (28, 6, 20), (32, 6, 21), (35, 6, 22), (38, 6, 23), (47, 6, 7), (51, 6, 9), (54, 6, 12), (57, 6, 10), (60, 6, 13), (63, 6, 11), (70, 6, 14), (92, 6, 5), (95, 6, 3), (104, 6, 4), (116, 6, 8), (119, 6, 1), (122, 6, 19), (178, 6, 17), (233, 6, 24)]
def tb_fp_RX6 : List (Nat × Nat × Nat × Nat) := [(47, 6, 7, 1), (51, 6, 9, 1), (54, 6, 12, 1), (57, 6, 10, 1), (60, 6, 13, 1), (63, 6, 11, 1), (70, 6, 14, 1), (92, 6, 5, 1), (95, 6, 3, 1), (104, 6, 4, 1), (116, 6, 8, 1), (119, 6, 1, 1), (122, 6, 19, 1), (178, 6, 17, 1), (233, 6, 24, 1)]
def tb_ci_RX6 : List (Nat × Int) := [(232, 1103515245)]
def tb_cl_RX6 : List (Nat × Int) := [(41, 127), (73, 97), (75, 122), (77, 48), (79, 57), (102, 6), (146, 4), (151, 3), (153, 99), (159, 20), (199, 10), (201, 13), (213, 8), (223, (-1)), (228, 2), (230, 60)]
def tb_ml_RX6 : List ai_l5 := [(43, 1, 98, 3, 0), (66, 0, 101, 1, 6), (81, 0, 102, 1, 6), (85, 0, 104, 0, 6), (88, 0, 105, 2, 6), (98, 0, 103, 0, 6), (107, 0, 107, 1, 6), (110, 0, 106, 0, 6), (113, 0, 108, 0, 6), (125, 0, 113, 1, 6), (128, 1, 112, 3, 0), (132, 0, 115, 2, 6), (136, 0, 116, 1, 6), (139, 0, 117, 1, 6), (142, 0, 111, 1, 6), (148, 0, 114, 2, 6), (155, 0, 121, 4, 6), (161, 0, 129, 1, 6), (164, 0, 127, 2, 6), (167, 0, 128, 3, 6), (171, 0, 131, 1, 6), (174, 0, 134, 2, 6), (181, 0, 130, 2, 6), (184, 0, 135, 1, 6), (187, 0, 136, 0, 6), (190, 0, 139, 1, 6), (193, 1, 143, 1, 0), (196, 1, 144, 3, 0), (203, 0, 145, 2, 6), (206, 1, 142, 1, 0), (209, 1, 150, 3, 0), (215, 0, 152, 4, 6), (219, 0, 151, 5, 6), (225, 0, 157, 1, 6)]
def tb_fl_RL : List (Nat × Nat × Nat) := []
def tb_fp_RL : List (Nat × Nat × Nat × Nat) := []
def tb_ci_RL : List (Nat × Int) := []
def tb_cl_RL : List (Nat × Int) := []
def tb_ml_RL : List ai_l5 := [(13, 0, 46, 1, 5), (17, 0, 99, 1, 6), (18, 0, 47, 1, 5), (21, 0, 100, 1, 6), (22, 0, 48, 0, 5), (26, 0, 109, 0, 6), (27, 0, 49, 0, 5), (30, 0, 110, 0, 6), (31, 0, 50, 1, 5), (34, 0, 118, 1, 6), (35, 0, 51, 2, 5), (39, 0, 119, 2, 6), (40, 0, 52, 1, 5), (43, 0, 120, 1, 6), (44, 0, 53, 3, 5), (48, 0, 122, 3, 6), (49, 0, 56, 1, 5), (52, 0, 123, 1, 6), (53, 0, 57, 1, 5), (56, 0, 124, 1, 6), (57, 0, 58, 1, 5), (60, 0, 125, 1, 6), (61, 0, 59, 1, 5), (64, 0, 126, 1, 6), (65, 0, 60, 1, 5), (68, 0, 132, 1, 6), (69, 0, 61, 1, 5), (72, 0, 133, 1, 6), (73, 0, 62, 1, 5), (76, 0, 137, 1, 6), (77, 0, 63, 1, 5), (80, 0, 138, 1, 6), (81, 0, 64, 1, 5), (84, 0, 140, 1, 6), (85, 0, 65, 2, 5), (88, 0, 141, 2, 6), (89, 0, 67, 2, 5), (92, 0, 146, 2, 6), (93, 0, 71, 2, 5), (96, 0, 147, 2, 6), (97, 0, 72, 1, 5), (100, 0, 148, 1, 6), (101, 0, 74, 1, 5), (104, 0, 149, 1, 6), (105, 0, 76, 4, 5), (109, 0, 153, 4, 6), (110, 0, 77, 4, 5), (113, 0, 154, 4, 6), (114, 0, 79, 4, 5), (118, 0, 155, 4, 6), (119, 0, 80, 1, 5), (122, 0, 156, 1, 6), (123, 0, 81, 1, 5), (126, 0, 158, 1, 6), (127, 0, 82, 2, 5), (130, 0, 159, 2, 6), (131, 0, 84, 4, 5), (134, 0, 160, 4, 6), (135, 0, 85, 3, 5), (138, 0, 161, 3, 6), (139, 0, 86, 1, 5), (142, 0, 162, 1, 6), (143, 0, 87, 1, 5), (146, 0, 163, 1, 6), (147, 0, 89, 3, 5), (150, 0, 164, 3, 6), (151, 0, 90, 3, 5), (154, 0, 165, 3, 6), (155, 0, 91, 4, 5), (158, 0, 166, 4, 6), (159, 0, 92, 0, 5), (162, 0, 167, 0, 6), (163, 0, 93, 1, 5), (166, 0, 168, 1, 6)]
def tb_fl_RJ6 : List (Nat × Nat × Nat) := []
def tb_fp_RJ6 : List (Nat × Nat × Nat × Nat) := []
def tb_ci_RJ6 : List (Nat × Int) := [(265, 1431655765), (266, 858993459), (267, 252645135)]
def tb_cl_RJ6 : List (Nat × Int) := []
def tb_ml_RJ6 : List ai_l5 := []
def tb_i0 : List (Nat × Instr × Nat) := [(0, .aload_n 0, 1), (1, .iconst 0, 1), (2, .putfield 31, 3), (5, .aload_n 0, 1), (6, .bipush 10, 2), (8, .putfield 9, 3), (11, .aload_n 0, 1), (12, .iconst 0, 1), (13, .putfield 34, 3), (16, .aload_n 0, 1), (17, .iconst 0, 1), (18, .putfield 37, 3), (21, .return_, 1)]
def tb_m0 : ai_m := (yX0_clear, cX0_clear, 1, none, false, tb_i0, tb_fl_RX0, tb_fp_RX0, tb_ci_RX0, tb_cl_RX0, tb_ml_RX0, [])
def tb_i1 : List (Nat × Instr × Nat) := [(0, .aload_n 0, 1), (1, .aload_n 1, 1), (2, .getfield 31, 3), (5, .putfield 31, 3), (8, .aload_n 0, 1), (9, .aload_n 1, 1), (10, .getfield 9, 3), (13, .putfield 9, 3), (16, .aload_n 0, 1), (17, .aload_n 1, 1), (18, .getfield 34, 3), (21, .putfield 34, 3), (24, .aload_n 0, 1), (25, .aload_n 1, 1), (26, .getfield 37, 3), (29, .putfield 37, 3), (32, .aload_n 1, 1), (33, .getfield 15, 3), (36, .iconst 0, 1), (37, .aload_n 0, 1), (38, .getfield 15, 3), (41, .iconst 0, 1), (42, .iconst 4, 1), (43, .invokestatic 40, 3), (46, .aload_n 1, 1), (47, .getfield 19, 3), (50, .iconst 0, 1), (51, .aload_n 0, 1), (52, .getfield 19, 3), (55, .iconst 0, 1), (56, .iconst 4, 1), (57, .invokestatic 40, 3), (60, .aload_n 1, 1), (61, .getfield 22, 3), (64, .iconst 0, 1), (65, .aload_n 0, 1), (66, .getfield 22, 3), (69, .iconst 0, 1), (70, .iconst 4, 1), (71, .invokestatic 40, 3), (74, .aload_n 1, 1), (75, .getfield 25, 3), (78, .iconst 0, 1), (79, .aload_n 0, 1), (80, .getfield 25, 3), (83, .iconst 0, 1), (84, .iconst 4, 1), (85, .invokestatic 40, 3), (88, .aload_n 1, 1), (89, .getfield 28, 3), (92, .iconst 0, 1), (93, .aload_n 0, 1), (94, .getfield 28, 3), (97, .iconst 0, 1), (98, .bipush 8, 2), (100, .invokestatic 40, 3), (103, .return_, 1)]
def tb_m1 : ai_m := (yX0_become, cX0_become, 2, none, false, tb_i1, tb_fl_RX0, tb_fp_RX0, tb_ci_RX0, tb_cl_RX0, tb_ml_RX0, [])
def tb_i2 : List (Nat × Instr × Nat) := [(0, .iload_n 1, 1), (1, .ifCond .lt 15, 3), (4, .iload_n 1, 1), (5, .aload_n 0, 1), (6, .getfield 31, 3), (9, .if_icmp .ge 7, 3), (12, .iconst 1, 1), (13, .goto 4, 3), (16, .iconst 0, 1), (17, .ireturn, 1)]
def tb_m2 : ai_m := (yX0_has, cX0_has, 2, (some .boolean), false, tb_i2, tb_fl_RX0, tb_fp_RX0, tb_ci_RX0, tb_cl_RX0, tb_ml_RX0, [])
def tb_i3 : List (Nat × Instr × Nat) := [(0, .aload_n 0, 1), (1, .getfield 15, 3), (4, .aload_n 0, 1), (5, .getfield 31, 3), (8, .iload_n 1, 1), (9, .iastore, 1), (10, .aload_n 0, 1), (11, .getfield 19, 3), (14, .aload_n 0, 1), (15, .getfield 31, 3), (18, .iload_n 2, 1), (19, .iastore, 1), (20, .aload_n 0, 1), (21, .getfield 22, 3), (24, .aload_n 0, 1), (25, .getfield 31, 3), (28, .iconst 0, 1), (29, .iastore, 1), (30, .aload_n 0, 1), (31, .getfield 25, 3), (34, .aload_n 0, 1), (35, .getfield 31, 3), (38, .iconst 0, 1), (39, .iastore, 1), (40, .aload_n 0, 1), (41, .dup, 1), (42, .getfield 31, 3), (45, .iconst 1, 1), (46, .iadd, 1), (47, .putfield 31, 3), (50, .return_, 1)]
def tb_m3 : ai_m := (yX0_addTest, cX0_addTest, 3, none, false, tb_i3, tb_fl_RX0, tb_fp_RX0, tb_ci_RX0, tb_cl_RX0, tb_ml_RX0, [])
def tb_i4 : List (Nat × Instr × Nat) := [(0, .aload_n 0, 1), (1, .getfield 22, 3), (4, .iload_n 1, 1), (5, .iaload, 1), (6, .aload_n 0, 1), (7, .getfield 19, 3), (10, .iload_n 1, 1), (11, .iaload, 1), (12, .if_icmp .lt 7, 3), (15, .iconst 1, 1), (16, .goto 4, 3), (19, .iconst 0, 1), (20, .ireturn, 1)]
def tb_m4 : ai_m := (yX0_isWon, cX0_isWon, 2, (some .boolean), false, tb_i4, tb_fl_RX0, tb_fp_RX0, tb_ci_RX0, tb_cl_RX0, tb_ml_RX0, [])
def tb_i5 : List (Nat × Instr × Nat) := [(0, .iconst 0, 1), (1, .istore_n 1, 1), (2, .iconst 0, 1), (3, .istore_n 2, 1), (4, .iload_n 2, 1), (5, .aload_n 0, 1), (6, .getfield 31, 3), (9, .if_icmp .ge 23, 3), (12, .aload_n 0, 1), (13, .iload_n 2, 1), (14, .invokevirtual 46, 3), (17, .ifCond .eq 9, 3), (20, .iload_n 1, 1), (21, .iconst 1, 1), (22, .iload_n 2, 1), (23, .ishl, 1), (24, .ior, 1), (25, .istore_n 1, 1), (26, .iinc 2 1, 3), (29, .goto (-25), 3), (32, .iload_n 1, 1), (33, .ireturn, 1)]
def tb_m5 : ai_m := (yX0_wonBits, cX0_wonBits, 3, (some .int), false, tb_i5, tb_fl_RX0, tb_fp_RX0, tb_ci_RX0, tb_cl_RX0, tb_ml_RX0, [(4, [(0, 1, 0, (-2147483648), 2147483647, false, false), (0, 2, 0, 0, 4, false, false)], [], [], 1, true)])
def tb_i6 : List (Nat × Instr × Nat) := [(0, .aload_n 0, 1), (1, .invokevirtual 50, 3), (4, .invokestatic 54, 3), (7, .ireturn, 1)]
def tb_m6 : ai_m := (yX0_wonCount, cX0_wonCount, 1, (some .int), false, tb_i6, tb_fl_RX0, tb_fp_RX0, tb_ci_RX0, tb_cl_RX0, tb_ml_RX0, [])
def tb_i7 : List (Nat × Instr × Nat) := [(0, .aload_n 0, 1), (1, .aload_n 0, 1), (2, .getfield 22, 3), (5, .invokevirtual 60, 3), (8, .ireturn, 1)]
def tb_m7 : ai_m := (yX0_allMoved, cX0_allMoved, 1, (some .int), false, tb_i7, tb_fl_RX0, tb_fp_RX0, tb_ci_RX0, tb_cl_RX0, tb_ml_RX0, [])
def tb_i8 : List (Nat × Instr × Nat) := [(0, .aload_n 0, 1), (1, .aload_n 0, 1), (2, .getfield 19, 3), (5, .invokevirtual 60, 3), (8, .ireturn, 1)]
def tb_m8 : ai_m := (yX0_allSizes, cX0_allSizes, 1, (some .int), false, tb_i8, tb_fl_RX0, tb_fp_RX0, tb_ci_RX0, tb_cl_RX0, tb_ml_RX0, [])
def tb_i9 : List (Nat × Instr × Nat) := [(0, .aload_n 0, 1), (1, .aload_n 0, 1), (2, .getfield 25, 3), (5, .invokevirtual 60, 3), (8, .ireturn, 1)]
def tb_m9 : ai_m := (yX0_allPulled, cX0_allPulled, 1, (some .int), false, tb_i9, tb_fl_RX0, tb_fp_RX0, tb_ci_RX0, tb_cl_RX0, tb_ml_RX0, [])
def tb_i10 : List (Nat × Instr × Nat) := [(0, .iconst 0, 1), (1, .istore_n 2, 1), (2, .iconst 0, 1), (3, .istore_n 3, 1), (4, .iload_n 3, 1), (5, .aload_n 0, 1), (6, .getfield 31, 3), (9, .if_icmp .ge 15, 3), (12, .iload_n 2, 1), (13, .aload_n 1, 1), (14, .iload_n 3, 1), (15, .iaload, 1), (16, .iadd, 1), (17, .istore_n 2, 1), (18, .iinc 3 1, 3), (21, .goto (-17), 3), (24, .iload_n 2, 1), (25, .ireturn, 1)]
def tb_m10 : ai_m := (yX0_sumOf, cX0_sumOf, 4, (some .int), false, tb_i10, tb_fl_RX0, tb_fp_RX0, tb_ci_RX0, tb_cl_RX0, tb_ml_RX0, [(4, [(0, 2, 0, (-2147483648), 2147483647, false, false), (0, 3, 0, 0, 4, false, false)], [], [], 1, true)])
def tb_i11 : List (Nat × Instr × Nat) := [(0, .aload_n 0, 1), (1, .getfield 15, 3), (4, .iload_n 1, 1), (5, .iaload, 1), (6, .aload_n 0, 1), (7, .getfield 9, 3), (10, .aload_n 0, 1), (11, .getfield 25, 3), (14, .iload_n 1, 1), (15, .iaload, 1), (16, .invokestatic 64, 3), (19, .ireturn, 1)]
def tb_m11 : ai_m := (yX0_yieldOf, cX0_yieldOf, 2, (some .int), false, tb_i11, tb_fl_RX0, tb_fp_RX0, tb_ci_RX0, tb_cl_RX0, tb_ml_RX0, [])
def tb_i12 : List (Nat × Instr × Nat) := [(0, .aload_n 0, 1), (1, .iload_n 1, 1), (2, .invokevirtual 68, 3), (5, .ifCond .eq 23, 3), (8, .aload_n 0, 1), (9, .getfield 9, 3), (12, .iconst 1, 1), (13, .if_icmp .lt 15, 3), (16, .aload_n 0, 1), (17, .iload_n 1, 1), (18, .invokevirtual 46, 3), (21, .ifCond .ne 7, 3), (24, .iconst 1, 1), (25, .goto 4, 3), (28, .iconst 0, 1), (29, .ireturn, 1)]
def tb_m12 : ai_m := (yX0_canPull, cX0_canPull, 2, (some .boolean), false, tb_i12, tb_fl_RX0, tb_fp_RX0, tb_ci_RX0, tb_cl_RX0, tb_ml_RX0, [])
def tb_i13 : List (Nat × Instr × Nat) := [(0, .aload_n 0, 1), (1, .iload_n 1, 1), (2, .invokevirtual 71, 3), (5, .istore_n 2, 1), (6, .aload_n 0, 1), (7, .getfield 22, 3), (10, .iload_n 1, 1), (11, .iaload, 1), (12, .istore_n 3, 1), (13, .aload_n 0, 1), (14, .getfield 22, 3), (17, .iload_n 1, 1), (18, .aload_n 0, 1), (19, .getfield 19, 3), (22, .iload_n 1, 1), (23, .iaload, 1), (24, .iload_n 3, 1), (25, .iload_n 2, 1), (26, .iadd, 1), (27, .invokestatic 74, 3), (30, .iastore, 1), (31, .aload_n 0, 1), (32, .getfield 25, 3), (35, .iload_n 1, 1), (36, .bipush 99, 2), (38, .aload_n 0, 1), (39, .getfield 25, 3), (42, .iload_n 1, 1), (43, .iaload, 1), (44, .iconst 1, 1), (45, .iadd, 1), (46, .invokestatic 74, 3), (49, .iastore, 1), (50, .iconst 2, 1), (51, .iload_n 2, 1), (52, .imul, 1), (53, .aload_n 0, 1), (54, .getfield 9, 3), (57, .if_icmp .ge 19, 3), (60, .aload_n 0, 1), (61, .sipush 999, 3), (64, .aload_n 0, 1), (65, .getfield 34, 3), (68, .iconst 1, 1), (69, .iadd, 1), (70, .invokestatic 74, 3), (73, .putfield 34, 3), (76, .aload_n 0, 1), (77, .dup, 1), (78, .getfield 9, 3), (81, .iconst 1, 1), (82, .isub, 1), (83, .putfield 9, 3), (86, .aload_n 0, 1), (87, .getfield 22, 3), (90, .iload_n 1, 1), (91, .iaload, 1), (92, .iload_n 3, 1), (93, .isub, 1), (94, .ireturn, 1)]
def tb_m13 : ai_m := (yX0_pullAt, cX0_pullAt, 4, (some .int), false, tb_i13, tb_fl_RX0, tb_fp_RX0, tb_ci_RX0, tb_cl_RX0, tb_ml_RX0, [])
def tb_i14 : List (Nat × Instr × Nat) := [(0, .aload_n 0, 1), (1, .bipush 20, 2), (3, .aload_n 0, 1), (4, .getfield 9, 3), (7, .iconst 2, 1), (8, .iadd, 1), (9, .invokestatic 74, 3), (12, .putfield 9, 3), (15, .return_, 1)]
def tb_m14 : ai_m := (yX0_restOnce, cX0_restOnce, 1, none, false, tb_i14, tb_fl_RX0, tb_fp_RX0, tb_ci_RX0, tb_cl_RX0, tb_ml_RX0, [])
def tb_i15 : List (Nat × Instr × Nat) := [(0, .iload_n 1, 1), (1, .iconst 4, 1), (2, .if_icmp .ne 9, 3), (5, .aload_n 0, 1), (6, .invokevirtual 80, 3), (9, .iconst 1, 1), (10, .ireturn, 1), (11, .aload_n 0, 1), (12, .iload_n 1, 1), (13, .invokevirtual 83, 3), (16, .ifCond .ne 5, 3), (19, .iconst 0, 1), (20, .ireturn, 1), (21, .aload_n 0, 1), (22, .iload_n 1, 1), (23, .invokevirtual 86, 3), (26, .pop, 1), (27, .iconst 1, 1), (28, .ireturn, 1)]
def tb_m15 : ai_m := (yX0_perform, cX0_perform, 2, (some .boolean), false, tb_i15, tb_fl_RX0, tb_fp_RX0, tb_ci_RX0, tb_cl_RX0, tb_ml_RX0, [])
def tb_i16 : List (Nat × Instr × Nat) := [(0, .bipush (-4), 2), (2, .istore_n 1, 1), (3, .iconst 0, 1), (4, .istore_n 2, 1), (5, .iload_n 2, 1), (6, .aload_n 0, 1), (7, .getfield 37, 3), (10, .if_icmp .ge 30, 3), (13, .aload_n 0, 1), (14, .aload_n 0, 1), (15, .getfield 28, 3), (18, .iload_n 2, 1), (19, .iaload, 1), (20, .invokevirtual 89, 3), (23, .ifCond .ne 11, 3), (26, .iload_n 1, 1), (27, .bipush (-4), 2), (29, .if_icmp .ne 5, 3), (32, .iload_n 2, 1), (33, .istore_n 1, 1), (34, .iinc 2 1, 3), (37, .goto (-32), 3), (40, .iload_n 1, 1), (41, .ireturn, 1)]
def tb_m16 : ai_m := (yX0_runPlan, cX0_runPlan, 3, (some .int), false, tb_i16, tb_fl_RX0, tb_fp_RX0, tb_ci_RX0, tb_cl_RX0, tb_ml_RX0, [(5, [(0, 1, 0, (-4), 7, false, false), (0, 2, 0, 0, 8, false, false)], [], [], 1, true)])
def tb_i17 : List (Nat × Instr × Nat) := [(0, .aload_n 0, 1), (1, .getfield 22, 3), (4, .iload_n 1, 1), (5, .iaload, 1), (6, .istore 4, 2), (8, .aload_n 0, 1), (9, .getfield 25, 3), (12, .iload_n 1, 1), (13, .iaload, 1), (14, .istore 5, 2), (16, .iconst 0, 1), (17, .istore 6, 2), (19, .iload_n 3, 1), (20, .istore 7, 2), (22, .iload 7, 2), (24, .iconst 1, 1), (25, .if_icmp .lt 47, 3), (28, .iload 4, 2), (30, .aload_n 0, 1), (31, .getfield 19, 3), (34, .iload_n 1, 1), (35, .iaload, 1), (36, .if_icmp .ge 36, 3), (39, .iload 4, 2), (41, .iload_n 2, 1), (42, .iload 7, 2), (44, .iload 5, 2), (46, .invokestatic 64, 3), (49, .iadd, 1), (50, .istore 4, 2), (52, .bipush 99, 2), (54, .iload 5, 2), (56, .iconst 1, 1), (57, .iadd, 1), (58, .invokestatic 74, 3), (61, .istore 5, 2), (63, .iinc 6 1, 3), (66, .iinc 7 (-1), 3), (69, .goto (-47), 3), (72, .iload 4, 2), (74, .aload_n 0, 1), (75, .getfield 19, 3), (78, .iload_n 1, 1), (79, .iaload, 1), (80, .if_icmp .lt 8, 3), (83, .iload 6, 2), (85, .goto 5, 3), (88, .bipush (-4), 2), (90, .ireturn, 1)]
def tb_m17 : ai_m := (yX0_pullsAlone, cX0_pullsAlone, 8, (some .int), false, tb_i17, tb_fl_RX0, tb_fp_RX0, tb_ci_RX0, tb_cl_RX0, tb_ml_RX0, [(22, [(0, 4, 0, 0, 118, false, false), (0, 5, 0, 0, 99, false, false), (0, 6, 0, (-2147483648), 2147483647, false, false), (0, 7, 0, 0, 20, false, false)], [], [], 3, false)])
def tb_i18 : List (Nat × Instr × Nat) := [(0, .iconst 0, 1), (1, .istore 5, 2), (3, .iload 5, 2), (5, .aload_n 0, 1), (6, .getfield 9, 3), (9, .arraylength, 1), (10, .if_icmp .ge 17, 3), (13, .aload_n 0, 1), (14, .getfield 9, 3), (17, .iload 5, 2), (19, .lconst 0, 1), (20, .lastore, 1), (21, .iinc 5 1, 3), (24, .goto (-21), 3), (27, .aload_n 0, 1), (28, .aload_n 1, 1), (29, .getfield 15, 3), (32, .iload_n 2, 1), (33, .iaload, 1), (34, .putfield 21, 3), (37, .aload_n 0, 1), (38, .getfield 9, 3), (41, .aload_n 1, 1), (42, .getfield 25, 3), (45, .iload_n 2, 1), (46, .iaload, 1), (47, .lconst 1, 1), (48, .lastore, 1), (49, .aload_n 0, 1), (50, .lconst 1, 1), (51, .putfield 28, 3), (54, .aload_n 1, 1), (55, .getfield 32, 3), (58, .iload_n 2, 1), (59, .iaload, 1), (60, .istore 5, 2), (62, .aload_n 1, 1), (63, .getfield 35, 3), (66, .istore 6, 2), (68, .iconst 0, 1), (69, .istore 7, 2), (71, .iload 7, 2), (73, .iload_n 3, 1), (74, .if_icmp .ge 48, 3), (77, .iload 6, 2), (79, .iconst 1, 1), (80, .if_icmp .lt 42, 3), (83, .aload_n 0, 1), (84, .aload_n 1, 1), (85, .getfield 38, 3), (88, .iload_n 2, 1), (89, .iaload, 1), (90, .iload 6, 2), (92, .iload 5, 2), (94, .invokestatic 41, 3), (97, .iload 4, 2), (99, .invokevirtual 45, 3), (102, .bipush 99, 2), (104, .iload 5, 2), (106, .iconst 1, 1), (107, .iadd, 1), (108, .invokestatic 49, 3), (111, .istore 5, 2), (113, .iinc 6 (-1), 3), (116, .iinc 7 1, 3), (119, .goto (-48), 3), (122, .return_, 1)]
def tb_m18 : ai_m := (yX1_spread, cX1_spread, 8, none, false, tb_i18, tb_fl_RX1, tb_fp_RX1, tb_ci_RX1, tb_cl_RX1, tb_ml_RX1, [(3, [(0, 5, 0, 0, 100, false, false)], [], [], 0, true), (71, [(0, 5, 0, 0, 99, false, false), (0, 6, 0, 0, 20, false, false), (0, 7, 0, 0, 8, false, false)], [], [], 1, false)])
def tb_i19 : List (Nat × Instr × Nat) := [(0, .aload_n 0, 1), (1, .getfield 9, 3), (4, .aload_n 0, 1), (5, .getfield 21, 3), (8, .dup2, 1), (9, .laload, 1), (10, .ldc2_w 55, 3), (13, .lmul, 1), (14, .lastore, 1), (15, .aload_n 0, 1), (16, .getfield 21, 3), (19, .iconst 1, 1), (20, .isub, 1), (21, .istore_n 3, 1), (22, .iload_n 3, 1), (23, .ifCond .lt 54, 3), (26, .aload_n 0, 1), (27, .getfield 9, 3), (30, .iload_n 3, 1), (31, .laload, 1), (32, .lstore 4, 2), (34, .aload_n 0, 1), (35, .getfield 9, 3), (38, .iload_n 3, 1), (39, .lload 4, 2), (41, .iload_n 2, 1), (42, .i2l, 1), (43, .lmul, 1), (44, .lastore, 1), (45, .aload_n 0, 1), (46, .getfield 9, 3), (49, .aload_n 0, 1), (50, .getfield 21, 3), (53, .iload_n 3, 1), (54, .iload_n 1, 1), (55, .iadd, 1), (56, .invokestatic 49, 3), (59, .dup2, 1), (60, .laload, 1), (61, .lload 4, 2), (63, .bipush 10, 2), (65, .iload_n 2, 1), (66, .isub, 1), (67, .i2l, 1), (68, .lmul, 1), (69, .ladd, 1), (70, .lastore, 1), (71, .iinc 3 (-1), 3), (74, .goto (-52), 3), (77, .aload_n 0, 1), (78, .dup, 1), (79, .getfield 28, 3), (82, .ldc2_w 55, 3), (85, .lmul, 1), (86, .putfield 28, 3), (89, .return_, 1)]
def tb_m19 : ai_m := (yX1_spreadOnce, cX1_spreadOnce, 6, none, false, tb_i19, tb_fl_RX1, tb_fp_RX1, tb_ci_RX1, tb_cl_RX1, tb_ml_RX1, [(22, [(0, 3, 0, (-1), 98, false, false)], [], [], 0, false)])
def tb_i20 : List (Nat × Instr × Nat) := [(0, .aload_n 0, 1), (1, .getfield 9, 3), (4, .aload_n 0, 1), (5, .getfield 21, 3), (8, .laload, 1), (9, .lreturn, 1)]
def tb_m20 : ai_m := (yX1_waysWon, cX1_waysWon, 1, (some .long), false, tb_i20, tb_fl_RX1, tb_fp_RX1, tb_ci_RX1, tb_cl_RX1, tb_ml_RX1, [])
def tb_i21 : List (Nat × Instr × Nat) := [(0, .lconst 0, 1), (1, .lstore_n 1, 1), (2, .iconst 0, 1), (3, .istore_n 3, 1), (4, .iload_n 3, 1), (5, .aload_n 0, 1), (6, .getfield 21, 3), (9, .if_icmp .gt 21, 3), (12, .lload_n 1, 1), (13, .iload_n 3, 1), (14, .i2l, 1), (15, .aload_n 0, 1), (16, .getfield 9, 3), (19, .iload_n 3, 1), (20, .laload, 1), (21, .lmul, 1), (22, .ladd, 1), (23, .lstore_n 1, 1), (24, .iinc 3 1, 3), (27, .goto (-23), 3), (30, .lload_n 1, 1), (31, .lreturn, 1)]
def tb_m21 : ai_m := (yX1_movedInAllWays, cX1_movedInAllWays, 4, (some .long), false, tb_i21, tb_fl_RX1, tb_fp_RX1, tb_ci_RX1, tb_cl_RX1, tb_ml_RX1, [(4, [(0, 1, 0, (-9223372036854775808), 9223372036854775807, false, false), (0, 3, 0, 0, 100, false, false)], [], [], 1, true)])
def tb_i22 : List (Nat × Instr × Nat) := [(0, .lload_n 1, 1), (1, .aload_n 0, 1), (2, .getfield 28, 3), (5, .invokestatic 57, 3), (8, .lstore 4, 2), (10, .lload 4, 2), (12, .lconst 1, 1), (13, .lcmp, 1), (14, .ifCond .ge 7, 3), (17, .ldc2_w 61, 3), (20, .lreturn, 1), (21, .iload_n 3, 1), (22, .ifCond .ne 10, 3), (25, .lload_n 1, 1), (26, .lload 4, 2), (28, .ldiv, 1), (29, .goto 10, 3), (32, .aload_n 0, 1), (33, .getfield 28, 3), (36, .lload 4, 2), (38, .ldiv, 1), (39, .lreturn, 1)]
def tb_m22 : ai_m := (yX1_lowest, cX1_lowest, 6, (some .long), false, tb_i22, tb_fl_RX1, tb_fp_RX1, tb_ci_RX1, tb_cl_RX1, tb_ml_RX1, [])
def tb_i23 : List (Nat × Instr × Nat) := [(0, .lload_n 0, 1), (1, .lstore 4, 2), (3, .lload_n 2, 1), (4, .lstore 6, 2), (6, .iconst 0, 1), (7, .istore 8, 2), (9, .iload 8, 2), (11, .sipush 200, 3), (14, .if_icmp .ge 31, 3), (17, .lload 6, 2), (19, .lconst 0, 1), (20, .lcmp, 1), (21, .ifCond .eq 24, 3), (24, .lload 4, 2), (26, .lload 6, 2), (28, .lrem, 1), (29, .lstore 9, 2), (31, .lload 6, 2), (33, .lstore 4, 2), (35, .lload 9, 2), (37, .lstore 6, 2), (39, .iinc 8 1, 3), (42, .goto (-33), 3), (45, .lload 4, 2), (47, .lreturn, 1)]
def tb_m23 : ai_m := (yX1_commonDivisor, cX1_commonDivisor, 11, (some .long), false, tb_i23, tb_fl_RX1, tb_fp_RX1, tb_ci_RX1, tb_cl_RX1, tb_ml_RX1, [(9, [(0, 4, 0, (-9223372036854775808), 9223372036854775807, false, false), (0, 6, 0, (-9223372036854775808), 9223372036854775807, false, false), (0, 8, 0, 0, 200, false, false)], [], [], 2, true)])
def tb_i24 : List (Nat × Instr × Nat) := [(0, .aload_n 0, 1), (1, .getfield 22, 3), (4, .sipush 160, 3), (7, .if_icmp .lt 5, 3), (10, .iconst 0, 1), (11, .ireturn, 1), (12, .aload_n 0, 1), (13, .getfield 11, 3), (16, .aload_n 0, 1), (17, .getfield 22, 3), (20, .iload_n 1, 1), (21, .iastore, 1), (22, .aload_n 0, 1), (23, .dup, 1), (24, .getfield 22, 3), (27, .iconst 1, 1), (28, .iadd, 1), (29, .putfield 22, 3), (32, .iconst 1, 1), (33, .ireturn, 1)]
def tb_m24 : ai_m := (yX2_write, cX2_write, 2, (some .boolean), false, tb_i24, tb_fl_RX2, tb_fp_RX2, tb_ci_RX2, tb_cl_RX2, tb_ml_RX2, [])
def tb_i25 : List (Nat × Instr × Nat) := [(0, .aload_n 0, 1), (1, .getfield 18, 3), (4, .invokevirtual 26, 3), (7, .aload_n 0, 1), (8, .iconst 0, 1), (9, .putfield 29, 3), (12, .aload_n 0, 1), (13, .iconst 0, 1), (14, .putfield 32, 3), (17, .aload_n 0, 1), (18, .iconst 0, 1), (19, .putfield 35, 3), (22, .aload_n 0, 1), (23, .iconst 0, 1), (24, .putfield 38, 3), (27, .aload_n 0, 1), (28, .iconst 0, 1), (29, .putfield 41, 3), (32, .aload_n 0, 1), (33, .invokevirtual 44, 3), (36, .iconst 0, 1), (37, .istore_n 1, 1), (38, .iload_n 1, 1), (39, .sipush 160, 3), (42, .if_icmp .gt 27, 3), (45, .aload_n 0, 1), (46, .getfield 35, 3), (49, .ifCond .ne 20, 3), (52, .aload_n 0, 1), (53, .getfield 47, 3), (56, .ifCond .eq 13, 3), (59, .aload_n 0, 1), (60, .invokevirtual 50, 3), (63, .iinc 1 1, 3), (66, .goto (-28), 3), (69, .aload_n 0, 1), (70, .getfield 35, 3), (73, .ifCond .ne 20, 3), (76, .aload_n 0, 1), (77, .invokevirtual 53, 3), (80, .ifCond .eq 13, 3), (83, .aload_n 0, 1), (84, .bipush 6, 2), (86, .aload_n 0, 1), (87, .getfield 22, 3), (90, .invokevirtual 57, 3), (93, .return_, 1)]
def tb_m25 : ai_m := (yX2_readAll, cX2_readAll, 2, none, false, tb_i25, tb_fl_RX2, tb_fp_RX2, tb_ci_RX2, tb_cl_RX2, tb_ml_RX2, [])
def tb_i26 : List (Nat × Instr × Nat) := [(0, .aload_n 0, 1), (1, .getfield 47, 3), (4, .iconst 1, 1), (5, .if_icmp .ne 10, 3), (8, .aload_n 0, 1), (9, .invokevirtual 61, 3), (12, .goto 5, 3), (15, .bipush 7, 2), (17, .istore_n 1, 1), (18, .iload_n 1, 1), (19, .bipush 7, 2), (21, .if_icmp .ne 18, 3), (24, .aload_n 0, 1), (25, .aload_n 0, 1), (26, .invokevirtual 65, 3), (29, .aload_n 0, 1), (30, .getfield 68, 3), (33, .invokevirtual 57, 3), (36, .goto 21, 3), (39, .iload_n 1, 1), (40, .iconst 4, 1), (41, .if_icmp .ge 11, 3), (44, .aload_n 0, 1), (45, .iload_n 1, 1), (46, .invokevirtual 71, 3), (49, .goto 8, 3), (52, .aload_n 0, 1), (53, .iload_n 1, 1), (54, .invokevirtual 75, 3), (57, .aload_n 0, 1), (58, .getfield 35, 3), (61, .ifCond .eq 4, 3), (64, .return_, 1), (65, .aload_n 0, 1), (66, .getfield 47, 3), (69, .iconst 3, 1), (70, .if_icmp .eq 16, 3), (73, .aload_n 0, 1), (74, .aload_n 0, 1), (75, .invokevirtual 65, 3), (78, .aload_n 0, 1), (79, .getfield 68, 3), (82, .invokevirtual 57, 3), (85, .return_, 1), (86, .aload_n 0, 1), (87, .dup, 1), (88, .getfield 32, 3), (91, .iconst 1, 1), (92, .iadd, 1), (93, .putfield 32, 3), (96, .aload_n 0, 1), (97, .invokevirtual 44, 3), (100, .return_, 1)]
def tb_m26 : ai_m := (yX2_readLine, cX2_readLine, 2, none, false, tb_i26, tb_fl_RX2, tb_fp_RX2, tb_ci_RX2, tb_cl_RX2, tb_ml_RX2, [])
def tb_i27 : List (Nat × Instr × Nat) := [(0, .aload_n 0, 1), (1, .getfield 18, 3), (4, .getfield 78, 3), (7, .iconst 4, 1), (8, .if_icmp .lt 13, 3), (11, .aload_n 0, 1), (12, .iconst 5, 1), (13, .aload_n 0, 1), (14, .getfield 68, 3), (17, .invokevirtual 57, 3), (20, .return_, 1), (21, .aload_n 0, 1), (22, .invokevirtual 44, 3), (25, .aload_n 0, 1), (26, .iconst 1, 1), (27, .bipush 99, 2), (29, .invokevirtual 81, 3), (32, .ifCond .ne 4, 3), (35, .return_, 1), (36, .aload_n 0, 1), (37, .getfield 18, 3), (40, .getfield 78, 3), (43, .istore_n 2, 1), (44, .aload_n 0, 1), (45, .getfield 18, 3), (48, .iload_n 1, 1), (49, .aload_n 0, 1), (50, .getfield 85, 3), (53, .invokevirtual 88, 3), (56, .aload_n 0, 1), (57, .invokevirtual 44, 3), (60, .aload_n 0, 1), (61, .getfield 47, 3), (64, .iconst 2, 1), (65, .if_icmp .ne 20, 3), (68, .aload_n 0, 1), (69, .iconst 0, 1), (70, .aload_n 0, 1), (71, .getfield 18, 3), (74, .getfield 91, 3), (77, .iload_n 2, 1), (78, .iaload, 1), (79, .invokevirtual 81, 3), (82, .ifCond .ne 4, 3), (85, .return_, 1), (86, .aload_n 0, 1), (87, .getfield 18, 3), (90, .getfield 94, 3), (93, .iload_n 2, 1), (94, .aload_n 0, 1), (95, .getfield 85, 3), (98, .iastore, 1), (99, .aload_n 0, 1), (100, .invokevirtual 44, 3), (103, .aload_n 0, 1), (104, .getfield 47, 3), (107, .iconst 2, 1), (108, .if_icmp .ne 13, 3), (111, .aload_n 0, 1), (112, .iconst 0, 1), (113, .bipush 99, 2), (115, .invokevirtual 81, 3), (118, .ifCond .ne 4, 3), (121, .return_, 1), (122, .aload_n 0, 1), (123, .getfield 18, 3), (126, .getfield 97, 3), (129, .iload_n 2, 1), (130, .aload_n 0, 1), (131, .getfield 85, 3), (134, .iastore, 1), (135, .aload_n 0, 1), (136, .invokevirtual 44, 3), (139, .return_, 1)]
def tb_m27 : ai_m := (yX2_readTest, cX2_readTest, 3, none, false, tb_i27, tb_fl_RX2, tb_fp_RX2, tb_ci_RX2, tb_cl_RX2, tb_ml_RX2, [])
def tb_i28 : List (Nat × Instr × Nat) := [(0, .aload_n 0, 1), (1, .getfield 29, 3), (4, .iload_n 1, 1), (5, .invokestatic 100, 3), (8, .ifCond .eq 13, 3), (11, .aload_n 0, 1), (12, .iconst 4, 1), (13, .aload_n 0, 1), (14, .getfield 68, 3), (17, .invokevirtual 57, 3), (20, .return_, 1), (21, .aload_n 0, 1), (22, .dup, 1), (23, .getfield 29, 3), (26, .iconst 1, 1), (27, .iload_n 1, 1), (28, .ishl, 1), (29, .ior, 1), (30, .putfield 29, 3), (33, .aload_n 0, 1), (34, .invokevirtual 44, 3), (37, .iload_n 1, 1), (38, .bipush 6, 2), (40, .if_icmp .ne 10, 3), (43, .aload_n 0, 1), (44, .invokevirtual 103, 3), (47, .goto 66, 3), (50, .iload_n 1, 1), (51, .iconst 4, 1), (52, .if_icmp .ne 31, 3), (55, .aload_n 0, 1), (56, .iconst 0, 1), (57, .bipush 20, 2), (59, .invokevirtual 81, 3), (62, .ifCond .eq 21, 3), (65, .aload_n 0, 1), (66, .getfield 18, 3), (69, .aload_n 0, 1), (70, .getfield 85, 3), (73, .putfield 106, 3), (76, .aload_n 0, 1), (77, .invokevirtual 44, 3), (80, .goto 33, 3), (83, .iload_n 1, 1), (84, .iconst 5, 1), (85, .if_icmp .ne 28, 3), (88, .aload_n 0, 1), (89, .iconst 0, 1), (90, .bipush 99, 2), (92, .invokevirtual 81, 3), (95, .ifCond .eq 18, 3), (98, .aload_n 0, 1), (99, .getfield 18, 3), (102, .aload_n 0, 1), (103, .getfield 85, 3), (106, .putfield 109, 3), (109, .aload_n 0, 1), (110, .invokevirtual 44, 3), (113, .return_, 1)]
def tb_m28 : ai_m := (yX2_readOnce, cX2_readOnce, 2, none, false, tb_i28, tb_fl_RX2, tb_fp_RX2, tb_ci_RX2, tb_cl_RX2, tb_ml_RX2, [])
def tb_i29 : List (Nat × Instr × Nat) := [(0, .iconst 0, 1), (1, .istore_n 1, 1), (2, .iload_n 1, 1), (3, .bipush 8, 2), (5, .if_icmp .gt 85, 3), (8, .aload_n 0, 1), (9, .getfield 47, 3), (12, .iconst 2, 1), (13, .if_icmp .ne 77, 3), (16, .aload_n 0, 1), (17, .getfield 18, 3), (20, .getfield 112, 3), (23, .bipush 8, 2), (25, .if_icmp .lt 13, 3), (28, .aload_n 0, 1), (29, .iconst 5, 1), (30, .aload_n 0, 1), (31, .getfield 68, 3), (34, .invokevirtual 57, 3), (37, .return_, 1), (38, .aload_n 0, 1), (39, .iconst 0, 1), (40, .iconst 4, 1), (41, .invokevirtual 81, 3), (44, .ifCond .ne 4, 3), (47, .return_, 1), (48, .aload_n 0, 1), (49, .getfield 18, 3), (52, .getfield 115, 3), (55, .aload_n 0, 1), (56, .getfield 18, 3), (59, .getfield 112, 3), (62, .aload_n 0, 1), (63, .getfield 85, 3), (66, .iastore, 1), (67, .aload_n 0, 1), (68, .getfield 18, 3), (71, .dup, 1), (72, .getfield 112, 3), (75, .iconst 1, 1), (76, .iadd, 1), (77, .putfield 112, 3), (80, .aload_n 0, 1), (81, .invokevirtual 44, 3), (84, .iinc 1 1, 3), (87, .goto (-85), 3), (90, .return_, 1)]
def tb_m29 : ai_m := (yX2_readPlan, cX2_readPlan, 2, none, false, tb_i29, tb_fl_RX2, tb_fp_RX2, tb_ci_RX2, tb_cl_RX2, tb_ml_RX2, [])
def tb_i30 : List (Nat × Instr × Nat) := [(0, .iconst 0, 1), (1, .istore_n 1, 1), (2, .iload_n 1, 1), (3, .aload_n 0, 1), (4, .getfield 18, 3), (7, .getfield 112, 3), (10, .if_icmp .ge 43, 3), (13, .aload_n 0, 1), (14, .getfield 18, 3), (17, .getfield 115, 3), (20, .iload_n 1, 1), (21, .iaload, 1), (22, .iconst 4, 1), (23, .if_icmp .eq 24, 3), (26, .aload_n 0, 1), (27, .getfield 18, 3), (30, .aload_n 0, 1), (31, .getfield 18, 3), (34, .getfield 115, 3), (37, .iload_n 1, 1), (38, .iaload, 1), (39, .invokevirtual 118, 3), (42, .ifCond .ne 5, 3), (45, .iconst 1, 1), (46, .ireturn, 1), (47, .iinc 1 1, 3), (50, .goto (-48), 3), (53, .iconst 0, 1), (54, .ireturn, 1)]
def tb_m30 : ai_m := (yX2_plansMissingTest, cX2_plansMissingTest, 2, (some .boolean), false, tb_i30, tb_fl_RX2, tb_fp_RX2, tb_ci_RX2, tb_cl_RX2, tb_ml_RX2, [])
def tb_i31 : List (Nat × Instr × Nat) := [(0, .aload_n 0, 1), (1, .getfield 47, 3), (4, .iconst 2, 1), (5, .if_icmp .ne 17, 3), (8, .aload_n 0, 1), (9, .getfield 85, 3), (12, .iload_n 1, 1), (13, .iload_n 2, 1), (14, .invokestatic 122, 3), (17, .ifCond .eq 5, 3), (20, .iconst 1, 1), (21, .ireturn, 1), (22, .aload_n 0, 1), (23, .aload_n 0, 1), (24, .getfield 47, 3), (27, .iconst 2, 1), (28, .if_icmp .ne 7, 3), (31, .iconst 3, 1), (32, .goto 7, 3), (35, .aload_n 0, 1), (36, .invokevirtual 65, 3), (39, .aload_n 0, 1), (40, .getfield 68, 3), (43, .invokevirtual 57, 3), (46, .iconst 0, 1), (47, .ireturn, 1)]
def tb_m31 : ai_m := (yX2_isNumberWithin, cX2_isNumberWithin, 3, (some .boolean), false, tb_i31, tb_fl_RX2, tb_fp_RX2, tb_ci_RX2, tb_cl_RX2, tb_ml_RX2, [])
def tb_i32 : List (Nat × Instr × Nat) := [(0, .aload_n 0, 1), (1, .getfield 47, 3), (4, .iconst 4, 1), (5, .if_icmp .ne 7, 3), (8, .iconst 1, 1), (9, .goto 4, 3), (12, .iconst 2, 1), (13, .ireturn, 1)]
def tb_m32 : ai_m := (yX2_faultOfToken, cX2_faultOfToken, 1, (some .int), false, tb_i32, tb_fl_RX2, tb_fp_RX2, tb_ci_RX2, tb_cl_RX2, tb_ml_RX2, [])
def tb_i33 : List (Nat × Instr × Nat) := [(0, .aload_n 0, 1), (1, .iload_n 1, 1), (2, .putfield 35, 3), (5, .aload_n 0, 1), (6, .iload_n 2, 1), (7, .putfield 38, 3), (10, .return_, 1)]
def tb_m33 : ai_m := (yX2_refuse, cX2_refuse, 3, none, false, tb_i33, tb_fl_RX2, tb_fp_RX2, tb_ci_RX2, tb_cl_RX2, tb_ml_RX2, [])
def tb_i34 : List (Nat × Instr × Nat) := [(0, .aload_n 0, 1), (1, .bipush 32, 2), (3, .bipush 32, 2), (5, .invokevirtual 126, 3), (8, .aload_n 0, 1), (9, .aload_n 0, 1), (10, .getfield 41, 3), (13, .putfield 68, 3), (16, .aload_n 0, 1), (17, .getfield 41, 3), (20, .aload_n 0, 1), (21, .getfield 22, 3), (24, .if_icmp .lt 11, 3), (27, .aload_n 0, 1), (28, .iconst 0, 1), (29, .putfield 47, 3), (32, .goto 109, 3), (35, .aload_n 0, 1), (36, .getfield 11, 3), (39, .aload_n 0, 1), (40, .getfield 41, 3), (43, .iaload, 1), (44, .bipush 59, 2), (46, .if_icmp .ne 21, 3), (49, .aload_n 0, 1), (50, .iconst 3, 1), (51, .putfield 47, 3), (54, .aload_n 0, 1), (55, .dup, 1), (56, .getfield 41, 3), (59, .iconst 1, 1), (60, .iadd, 1), (61, .putfield 41, 3), (64, .goto 77, 3), (67, .aload_n 0, 1), (68, .getfield 11, 3), (71, .aload_n 0, 1), (72, .getfield 41, 3), (75, .iaload, 1), (76, .bipush 97, 2), (78, .bipush 122, 2), (80, .invokestatic 122, 3), (83, .ifCond .eq 19, 3), (86, .aload_n 0, 1), (87, .iconst 1, 1), (88, .putfield 47, 3), (91, .aload_n 0, 1), (92, .bipush 97, 2), (94, .bipush 122, 2), (96, .invokevirtual 126, 3), (99, .goto 42, 3), (102, .aload_n 0, 1), (103, .getfield 11, 3), (106, .aload_n 0, 1), (107, .getfield 41, 3), (110, .iaload, 1), (111, .bipush 48, 2), (113, .bipush 57, 2), (115, .invokestatic 122, 3), (118, .ifCond .eq 18, 3), (121, .aload_n 0, 1), (122, .bipush 48, 2), (124, .bipush 57, 2), (126, .invokevirtual 126, 3), (129, .aload_n 0, 1), (130, .invokevirtual 130, 3), (133, .goto 8, 3), (136, .aload_n 0, 1), (137, .iconst 4, 1), (138, .putfield 47, 3), (141, .return_, 1)]
def tb_m34 : ai_m := (yX2_advance, cX2_advance, 1, none, false, tb_i34, tb_fl_RX2, tb_fp_RX2, tb_ci_RX2, tb_cl_RX2, tb_ml_RX2, [])
def tb_i35 : List (Nat × Instr × Nat) := [(0, .aload_n 0, 1), (1, .getfield 41, 3), (4, .aload_n 0, 1), (5, .getfield 22, 3), (8, .if_icmp .ge 42, 3), (11, .aload_n 0, 1), (12, .getfield 11, 3), (15, .aload_n 0, 1), (16, .getfield 41, 3), (19, .iaload, 1), (20, .iload_n 1, 1), (21, .if_icmp .lt 29, 3), (24, .aload_n 0, 1), (25, .getfield 11, 3), (28, .aload_n 0, 1), (29, .getfield 41, 3), (32, .iaload, 1), (33, .iload_n 2, 1), (34, .if_icmp .gt 16, 3), (37, .aload_n 0, 1), (38, .dup, 1), (39, .getfield 41, 3), (42, .iconst 1, 1), (43, .iadd, 1), (44, .putfield 41, 3), (47, .goto (-47), 3), (50, .return_, 1)]
def tb_m35 : ai_m := (yX2_skip, cX2_skip, 3, none, false, tb_i35, tb_fl_RX2, tb_fp_RX2, tb_ci_RX2, tb_cl_RX2, tb_ml_RX2, [])
def tb_i36 : List (Nat × Instr × Nat) := [(0, .aload_n 0, 1), (1, .getfield 41, 3), (4, .aload_n 0, 1), (5, .getfield 68, 3), (8, .isub, 1), (9, .iconst 2, 1), (10, .if_icmp .le 9, 3), (13, .aload_n 0, 1), (14, .iconst 4, 1), (15, .putfield 47, 3), (18, .return_, 1), (19, .aload_n 0, 1), (20, .iconst 2, 1), (21, .putfield 47, 3), (24, .aload_n 0, 1), (25, .iconst 0, 1), (26, .putfield 85, 3), (29, .aload_n 0, 1), (30, .getfield 68, 3), (33, .istore_n 1, 1), (34, .iload_n 1, 1), (35, .aload_n 0, 1), (36, .getfield 41, 3), (39, .if_icmp .ge 30, 3), (42, .aload_n 0, 1), (43, .aload_n 0, 1), (44, .getfield 85, 3), (47, .bipush 10, 2), (49, .imul, 1), (50, .aload_n 0, 1), (51, .getfield 11, 3), (54, .iload_n 1, 1), (55, .iaload, 1), (56, .iadd, 1), (57, .bipush 48, 2), (59, .isub, 1), (60, .putfield 85, 3), (63, .iinc 1 1, 3), (66, .goto (-32), 3), (69, .return_, 1)]
def tb_m36 : ai_m := (yX2_takeNumber, cX2_takeNumber, 2, none, false, tb_i36, tb_fl_RX2, tb_fp_RX2, tb_ci_RX2, tb_cl_RX2, tb_ml_RX2, [])
def tb_i37 : List (Nat × Instr × Nat) := [(0, .iconst 0, 1), (1, .istore_n 1, 1), (2, .iload_n 1, 1), (3, .bipush 7, 2), (5, .if_icmp .ge 22, 3), (8, .aload_n 0, 1), (9, .iload_n 1, 1), (10, .invokestatic 133, 3), (13, .invokevirtual 137, 3), (16, .ifCond .eq 5, 3), (19, .iload_n 1, 1), (20, .ireturn, 1), (21, .iinc 1 1, 3), (24, .goto (-22), 3), (27, .bipush 7, 2), (29, .ireturn, 1)]
def tb_m37 : ai_m := (yX2_wordRead, cX2_wordRead, 2, (some .int), false, tb_i37, tb_fl_RX2, tb_fp_RX2, tb_ci_RX2, tb_cl_RX2, tb_ml_RX2, [])
def tb_i38 : List (Nat × Instr × Nat) := [(0, .iload_n 0, 1), (1, .ifCond .lt 12, 3), (4, .iload_n 0, 1), (5, .iconst 4, 1), (6, .if_icmp .ge 7, 3), (9, .iconst 1, 1), (10, .goto 4, 3), (13, .iconst 0, 1), (14, .ireturn, 1)]
def tb_m38 : ai_m := (yX3_has, cX3_has, 1, (some .boolean), false, tb_i38, tb_fl_RX3, tb_fp_RX3, tb_ci_RX3, tb_cl_RX3, tb_ml_RX3, [])
def tb_i39 : List (Nat × Instr × Nat) := [(0, .aload_n 0, 1), (1, .getfield 11, 3), (4, .iload_n 1, 1), (5, .iaload, 1), (6, .iconst (-1), 1), (7, .if_icmp .ne 7, 3), (10, .iconst 1, 1), (11, .goto 4, 3), (14, .iconst 0, 1), (15, .ireturn, 1)]
def tb_m39 : ai_m := (yX3_isNothing, cX3_isNothing, 2, (some .boolean), false, tb_i39, tb_fl_RX3, tb_fp_RX3, tb_ci_RX3, tb_cl_RX3, tb_ml_RX3, [])
def tb_i40 : List (Nat × Instr × Nat) := [(0, .aload_n 0, 1), (1, .getfield 11, 3), (4, .iload_n 1, 1), (5, .iload_n 2, 1), (6, .iastore, 1), (7, .aload_n 0, 1), (8, .getfield 15, 3), (11, .iload_n 1, 1), (12, .iload_n 3, 1), (13, .iastore, 1), (14, .iconst 0, 1), (15, .istore 4, 2), (17, .iload 4, 2), (19, .iload_n 3, 1), (20, .if_icmp .ge 19, 3), (23, .aload_n 0, 1), (24, .getfield 20, 3), (27, .iload_n 1, 1), (28, .aaload, 1), (29, .iload 4, 2), (31, .iconst 0, 1), (32, .iastore, 1), (33, .iinc 4 1, 3), (36, .goto (-19), 3), (39, .return_, 1)]
def tb_m40 : ai_m := (yX3_renew, cX3_renew, 5, none, false, tb_i40, tb_fl_RX3, tb_fp_RX3, tb_ci_RX3, tb_cl_RX3, tb_ml_RX3, [(17, [(0, 4, 0, 0, 40, false, false)], [], [], 0, true)])
def tb_i41 : List (Nat × Instr × Nat) := [(0, .aload_n 0, 1), (1, .iload_n 1, 1), (2, .invokevirtual 23, 3), (5, .ifCond .eq 5, 3), (8, .iconst 1, 1), (9, .ireturn, 1), (10, .iload_n 2, 1), (11, .ifCond .lt 13, 3), (14, .iload_n 2, 1), (15, .aload_n 0, 1), (16, .getfield 15, 3), (19, .iload_n 1, 1), (20, .iaload, 1), (21, .if_icmp .lt 7, 3), (24, .iconst 2, 1), (25, .goto 4, 3), (28, .iconst 0, 1), (29, .ireturn, 1)]
def tb_m41 : ai_m := (yX3_faultOfCell, cX3_faultOfCell, 3, (some .int), false, tb_i41, tb_fl_RX3, tb_fp_RX3, tb_ci_RX3, tb_cl_RX3, tb_ml_RX3, [])
def tb_i42 : List (Nat × Instr × Nat) := [(0, .aload_n 0, 1), (1, .iload_n 1, 1), (2, .invokevirtual 23, 3), (5, .ifCond .ne 15, 3), (8, .aload_n 0, 1), (9, .getfield 11, 3), (12, .iload_n 1, 1), (13, .iaload, 1), (14, .iload_n 2, 1), (15, .if_icmp .eq 5, 3), (18, .iconst 3, 1), (19, .ireturn, 1), (20, .aload_n 0, 1), (21, .iload_n 1, 1), (22, .iload_n 3, 1), (23, .invokevirtual 27, 3), (26, .ireturn, 1)]
def tb_m42 : ai_m := (yX3_faultOfReading, cX3_faultOfReading, 4, (some .int), false, tb_i42, tb_fl_RX3, tb_fp_RX3, tb_ci_RX3, tb_cl_RX3, tb_ml_RX3, [])
def tb_i43 : List (Nat × Instr × Nat) := [(0, .aload_n 0, 1), (1, .getfield 11, 3), (4, .iload_n 1, 1), (5, .iaload, 1), (6, .lookupswitch 52 #[(0, 26), (1, 39)], 26), (32, .aload_n 0, 1), (33, .getfield 20, 3), (36, .iload_n 1, 1), (37, .aaload, 1), (38, .iload_n 2, 1), (39, .iload_n 3, 1), (40, .i2b, 1), (41, .iastore, 1), (42, .goto 25, 3), (45, .aload_n 0, 1), (46, .getfield 20, 3), (49, .iload_n 1, 1), (50, .aaload, 1), (51, .iload_n 2, 1), (52, .iload_n 3, 1), (53, .i2s, 1), (54, .iastore, 1), (55, .goto 12, 3), (58, .aload_n 0, 1), (59, .getfield 20, 3), (62, .iload_n 1, 1), (63, .aaload, 1), (64, .iload_n 2, 1), (65, .iload_n 3, 1), (66, .iastore, 1), (67, .return_, 1)]
def tb_m43 : ai_m := (yX3_put, cX3_put, 4, none, false, tb_i43, tb_fl_RX3, tb_fp_RX3, tb_ci_RX3, tb_cl_RX3, tb_ml_RX3, [])
def tb_i44 : List (Nat × Instr × Nat) := [(0, .aload_n 0, 1), (1, .getfield 24, 3), (4, .bipush 6, 2), (6, .if_icmp .lt 5, 3), (9, .iconst 0, 1), (10, .ireturn, 1), (11, .aload_n 0, 1), (12, .getfield 11, 3), (15, .aload_n 0, 1), (16, .getfield 24, 3), (19, .iload_n 1, 1), (20, .iastore, 1), (21, .aload_n 0, 1), (22, .getfield 15, 3), (25, .aload_n 0, 1), (26, .getfield 24, 3), (29, .iload_n 2, 1), (30, .iastore, 1), (31, .aload_n 0, 1), (32, .getfield 18, 3), (35, .aload_n 0, 1), (36, .getfield 24, 3), (39, .iload_n 3, 1), (40, .iastore, 1), (41, .aload_n 0, 1), (42, .getfield 21, 3), (45, .aload_n 0, 1), (46, .getfield 24, 3), (49, .iload 4, 2), (51, .iastore, 1), (52, .aload_n 0, 1), (53, .dup, 1), (54, .getfield 24, 3), (57, .iconst 1, 1), (58, .iadd, 1), (59, .putfield 24, 3), (62, .iconst 1, 1), (63, .ireturn, 1)]
def tb_m44 : ai_m := (yX4_add, cX4_add, 5, (some .boolean), false, tb_i44, tb_fl_RX4, tb_fp_RX4, tb_ci_RX4, tb_cl_RX4, tb_ml_RX4, [])
def tb_i45 : List (Nat × Instr × Nat) := [(0, .bipush 15, 2), (2, .istore_n 2, 1), (3, .iconst 0, 1), (4, .istore_n 3, 1), (5, .iload_n 3, 1), (6, .aload_n 0, 1), (7, .getfield 24, 3), (10, .if_icmp .ge 43, 3), (13, .aload_n 0, 1), (14, .getfield 11, 3), (17, .iload_n 3, 1), (18, .iaload, 1), (19, .iload_n 1, 1), (20, .if_icmp .ne 27, 3), (23, .iload_n 2, 1), (24, .aload_n 0, 1), (25, .getfield 21, 3), (28, .iload_n 3, 1), (29, .iaload, 1), (30, .aload_n 0, 1), (31, .getfield 15, 3), (34, .iload_n 3, 1), (35, .iaload, 1), (36, .aload_n 0, 1), (37, .getfield 18, 3), (40, .iload_n 3, 1), (41, .iaload, 1), (42, .invokestatic 28, 3), (45, .iand, 1), (46, .istore_n 2, 1), (47, .iinc 3 1, 3), (50, .goto (-45), 3), (53, .iload_n 2, 1), (54, .ireturn, 1)]
def tb_m45 : ai_m := (yX4_kindsOf, cX4_kindsOf, 4, (some .int), false, tb_i45, tb_fl_RX4, tb_fp_RX4, tb_ci_RX4, tb_cl_RX4, tb_ml_RX4, [(5, [(0, 2, 0, (-2147483648), 2147483647, false, false), (0, 3, 0, 0, 6, false, false)], [], [], 1, true)])
def tb_i46 : List (Nat × Instr × Nat) := [(0, .iload_n 1, 1), (1, .iconst 0, 1), (2, .bipush 127, 2), (4, .invokestatic 57, 3), (7, .ifCond .ne 5, 3), (10, .iconst (-1), 1), (11, .ireturn, 1), (12, .aload_n 0, 1), (13, .getfield 32, 3), (16, .iload_n 1, 1), (17, .invokevirtual 61, 3), (20, .ifCond .eq 13, 3), (23, .aload_n 0, 1), (24, .getfield 32, 3), (27, .getfield 65, 3), (30, .goto 5, 3), (33, .bipush (-3), 2), (35, .ireturn, 1)]
def tb_m46 : ai_m := (yX5_feed, cX5_feed, 2, (some .int), false, tb_i46, tb_fl_RX5, tb_fp_RX5, tb_ci_RX5, tb_cl_RX5, tb_ml_RX5, [])
def tb_i47 : List (Nat × Instr × Nat) := [(0, .iload_n 1, 1), (1, .iconst 0, 1), (2, .aload_n 0, 1), (3, .getfield 32, 3), (6, .getfield 65, 3), (9, .invokestatic 57, 3), (12, .ifCond .ne 5, 3), (15, .iconst (-1), 1), (16, .ireturn, 1), (17, .aload_n 0, 1), (18, .getfield 32, 3), (21, .getfield 65, 3), (24, .istore_n 2, 1), (25, .aload_n 0, 1), (26, .getfield 32, 3), (29, .iload_n 1, 1), (30, .putfield 65, 3), (33, .iload_n 2, 1), (34, .ireturn, 1)]
def tb_m47 : ai_m := (yX5_end, cX5_end, 3, (some .int), false, tb_i47, tb_fl_RX5, tb_fp_RX5, tb_ci_RX5, tb_cl_RX5, tb_ml_RX5, [])
def tb_i48 : List (Nat × Instr × Nat) := [(0, .aload_n 0, 1), (1, .getfield 32, 3), (4, .invokevirtual 69, 3), (7, .aload_n 0, 1), (8, .getfield 32, 3), (11, .iconst 0, 1), (12, .putfield 65, 3), (15, .aload_n 0, 1), (16, .aload_n 0, 1), (17, .getfield 32, 3), (20, .getfield 72, 3), (23, .putfield 75, 3), (26, .aload_n 0, 1), (27, .getfield 75, 3), (30, .ifCond .eq 14, 3), (33, .bipush (-10), 2), (35, .aload_n 0, 1), (36, .getfield 32, 3), (39, .getfield 78, 3), (42, .isub, 1), (43, .ireturn, 1), (44, .aload_n 0, 1), (45, .getfield 10, 3), (48, .aload_n 0, 1), (49, .getfield 32, 3), (52, .getfield 81, 3), (55, .invokevirtual 84, 3), (58, .aload_n 0, 1), (59, .getfield 39, 3), (62, .iconst 0, 1), (63, .putfield 88, 3), (66, .aload_n 0, 1), (67, .getfield 25, 3), (70, .iconst 0, 1), (71, .iconst 0, 1), (72, .bastore, 1), (73, .aload_n 0, 1), (74, .getfield 25, 3), (77, .iconst 1, 1), (78, .iconst 0, 1), (79, .bastore, 1), (80, .aload_n 0, 1), (81, .getfield 32, 3), (84, .getfield 91, 3), (87, .ireturn, 1)]
def tb_m48 : ai_m := (yX5_text, cX5_text, 1, (some .int), false, tb_i48, tb_fl_RX5, tb_fp_RX5, tb_ci_RX5, tb_cl_RX5, tb_ml_RX5, [])
def tb_i49 : List (Nat × Instr × Nat) := [(0, .aload_n 0, 1), (1, .getfield 75, 3), (4, .ireturn, 1)]
def tb_m49 : ai_m := (yX5_fault, cX5_fault, 1, (some .int), false, tb_i49, tb_fl_RX5, tb_fp_RX5, tb_ci_RX5, tb_cl_RX5, tb_ml_RX5, [])
def tb_i50 : List (Nat × Instr × Nat) := [(0, .iload_n 1, 1), (1, .tableswitch 87 0 5 #[39, 47, 55, 63, 71, 79], 39), (40, .aload_n 0, 1), (41, .getfield 10, 3), (44, .getfield 94, 3), (47, .ireturn, 1), (48, .aload_n 0, 1), (49, .getfield 10, 3), (52, .getfield 97, 3), (55, .ireturn, 1), (56, .aload_n 0, 1), (57, .getfield 10, 3), (60, .getfield 100, 3), (63, .ireturn, 1), (64, .aload_n 0, 1), (65, .getfield 10, 3), (68, .getfield 103, 3), (71, .ireturn, 1), (72, .aload_n 0, 1), (73, .getfield 10, 3), (76, .invokevirtual 106, 3), (79, .ireturn, 1), (80, .aload_n 0, 1), (81, .getfield 10, 3), (84, .invokevirtual 110, 3), (87, .ireturn, 1), (88, .iconst (-1), 1), (89, .ireturn, 1)]
def tb_m50 : ai_m := (yX5_rule, cX5_rule, 2, (some .int), false, tb_i50, tb_fl_RX5, tb_fp_RX5, tb_ci_RX5, tb_cl_RX5, tb_ml_RX5, [])
def tb_i51 : List (Nat × Instr × Nat) := [(0, .aload_n 0, 1), (1, .getfield 10, 3), (4, .iload_n 1, 1), (5, .invokevirtual 113, 3), (8, .ifCond .ne 5, 3), (11, .iconst (-1), 1), (12, .ireturn, 1), (13, .iload_n 2, 1), (14, .tableswitch 83 0 4 #[34, 44, 54, 64, 74], 34), (48, .aload_n 0, 1), (49, .getfield 10, 3), (52, .getfield 116, 3), (55, .iload_n 1, 1), (56, .iaload, 1), (57, .ireturn, 1), (58, .aload_n 0, 1), (59, .getfield 10, 3), (62, .getfield 120, 3), (65, .iload_n 1, 1), (66, .iaload, 1), (67, .ireturn, 1), (68, .aload_n 0, 1), (69, .getfield 10, 3), (72, .getfield 123, 3), (75, .iload_n 1, 1), (76, .iaload, 1), (77, .ireturn, 1), (78, .aload_n 0, 1), (79, .getfield 10, 3), (82, .getfield 126, 3), (85, .iload_n 1, 1), (86, .iaload, 1), (87, .ireturn, 1), (88, .aload_n 0, 1), (89, .getfield 10, 3), (92, .iload_n 1, 1), (93, .invokevirtual 129, 3), (96, .ireturn, 1), (97, .iconst (-1), 1), (98, .ireturn, 1)]
def tb_m51 : ai_m := (yX5_test, cX5_test, 3, (some .int), false, tb_i51, tb_fl_RX5, tb_fp_RX5, tb_ci_RX5, tb_cl_RX5, tb_ml_RX5, [])
def tb_i52 : List (Nat × Instr × Nat) := [(0, .iload_n 1, 1), (1, .iconst 0, 1), (2, .aload_n 0, 1), (3, .getfield 10, 3), (6, .getfield 103, 3), (9, .iconst 1, 1), (10, .isub, 1), (11, .invokestatic 57, 3), (14, .ifCond .eq 15, 3), (17, .aload_n 0, 1), (18, .getfield 10, 3), (21, .getfield 133, 3), (24, .iload_n 1, 1), (25, .iaload, 1), (26, .goto 4, 3), (29, .iconst (-1), 1), (30, .ireturn, 1)]
def tb_m52 : ai_m := (yX5_act, cX5_act, 2, (some .int), false, tb_i52, tb_fl_RX5, tb_fp_RX5, tb_ci_RX5, tb_cl_RX5, tb_ml_RX5, [])
def tb_i53 : List (Nat × Instr × Nat) := [(0, .aload_n 0, 1), (1, .getfield 10, 3), (4, .iload_n 1, 1), (5, .invokevirtual 113, 3), (8, .ifCond .ne 5, 3), (11, .iconst (-1), 1), (12, .ireturn, 1), (13, .iload_n 2, 1), (14, .tableswitch 68 0 3 #[30, 45, 68, 52], 30), (44, .aload_n 0, 1), (45, .getfield 10, 3), (48, .getfield 116, 3), (51, .iload_n 1, 1), (52, .iload_n 3, 1), (53, .iconst 0, 1), (54, .iconst 3, 1), (55, .invokestatic 136, 3), (58, .ireturn, 1), (59, .aload_n 0, 1), (60, .iload_n 1, 1), (61, .iload_n 3, 1), (62, .invokevirtual 140, 3), (65, .ireturn, 1), (66, .aload_n 0, 1), (67, .getfield 10, 3), (70, .getfield 126, 3), (73, .iload_n 1, 1), (74, .iload_n 3, 1), (75, .iconst 0, 1), (76, .bipush 99, 2), (78, .invokestatic 136, 3), (81, .ireturn, 1), (82, .iconst (-1), 1), (83, .ireturn, 1)]
def tb_m53 : ai_m := (yX5_alter, cX5_alter, 4, (some .int), false, tb_i53, tb_fl_RX5, tb_fp_RX5, tb_ci_RX5, tb_cl_RX5, tb_ml_RX5, [])
def tb_i54 : List (Nat × Instr × Nat) := [(0, .iload_n 2, 1), (1, .iconst 1, 1), (2, .bipush 99, 2), (4, .invokestatic 57, 3), (7, .ifCond .eq 19, 3), (10, .iload_n 2, 1), (11, .aload_n 0, 1), (12, .getfield 10, 3), (15, .getfield 123, 3), (18, .iload_n 1, 1), (19, .iaload, 1), (20, .if_icmp .ge 6, 3), (23, .bipush (-2), 2), (25, .ireturn, 1), (26, .aload_n 0, 1), (27, .getfield 10, 3), (30, .getfield 120, 3), (33, .iload_n 1, 1), (34, .iload_n 2, 1), (35, .iconst 1, 1), (36, .bipush 99, 2), (38, .invokestatic 136, 3), (41, .ireturn, 1)]
def tb_m54 : ai_m := (yX5_resize, cX5_resize, 3, (some .int), false, tb_i54, tb_fl_RX5, tb_fp_RX5, tb_ci_RX5, tb_cl_RX5, tb_ml_RX5, [])
def tb_i55 : List (Nat × Instr × Nat) := [(0, .iload_n 2, 1), (1, .iload_n 3, 1), (2, .iload 4, 2), (4, .invokestatic 57, 3), (7, .ifCond .ne 5, 3), (10, .iconst (-1), 1), (11, .ireturn, 1), (12, .aload_n 0, 1), (13, .iload_n 1, 1), (14, .iaload, 1), (15, .istore 5, 2), (17, .aload_n 0, 1), (18, .iload_n 1, 1), (19, .iload_n 2, 1), (20, .iastore, 1), (21, .iload 5, 2), (23, .ireturn, 1)]
def tb_m55 : ai_m := (yX5_replace, cX5_replace, 6, (some .int), false, tb_i55, tb_fl_RX5, tb_fp_RX5, tb_ci_RX5, tb_cl_RX5, tb_ml_RX5, [])
def tb_i56 : List (Nat × Instr × Nat) := [(0, .iload_n 1, 1), (1, .iconst 0, 1), (2, .bipush 20, 2), (4, .invokestatic 57, 3), (7, .ifCond .ne 5, 3), (10, .iconst (-1), 1), (11, .ireturn, 1), (12, .aload_n 0, 1), (13, .getfield 10, 3), (16, .getfield 97, 3), (19, .istore_n 2, 1), (20, .aload_n 0, 1), (21, .getfield 10, 3), (24, .iload_n 1, 1), (25, .putfield 97, 3), (28, .iload_n 2, 1), (29, .ireturn, 1)]
def tb_m56 : ai_m := (yX5_strong, cX5_strong, 3, (some .int), false, tb_i56, tb_fl_RX5, tb_fp_RX5, tb_ci_RX5, tb_cl_RX5, tb_ml_RX5, [])
def tb_i57 : List (Nat × Instr × Nat) := [(0, .aload_n 0, 1), (1, .getfield 10, 3), (4, .iload_n 1, 1), (5, .invokevirtual 113, 3), (8, .ifCond .ne 5, 3), (11, .iconst (-1), 1), (12, .ireturn, 1), (13, .aload_n 0, 1), (14, .getfield 10, 3), (17, .getfield 123, 3), (20, .iload_n 1, 1), (21, .iaload, 1), (22, .istore_n 2, 1), (23, .aload_n 0, 1), (24, .getfield 10, 3), (27, .getfield 123, 3), (30, .iload_n 1, 1), (31, .iconst 0, 1), (32, .iastore, 1), (33, .aload_n 0, 1), (34, .getfield 10, 3), (37, .getfield 126, 3), (40, .iload_n 1, 1), (41, .iconst 0, 1), (42, .iastore, 1), (43, .iload_n 2, 1), (44, .ireturn, 1)]
def tb_m57 : ai_m := (yX5_fill, cX5_fill, 3, (some .int), false, tb_i57, tb_fl_RX5, tb_fp_RX5, tb_ci_RX5, tb_cl_RX5, tb_ml_RX5, [])
def tb_i58 : List (Nat × Instr × Nat) := [(0, .iload_n 1, 1), (1, .iconst 4, 1), (2, .if_icmp .eq 16, 3), (5, .aload_n 0, 1), (6, .getfield 10, 3), (9, .iload_n 1, 1), (10, .invokevirtual 113, 3), (13, .ifCond .ne 5, 3), (16, .iconst (-1), 1), (17, .ireturn, 1), (18, .aload_n 0, 1), (19, .getfield 10, 3), (22, .getfield 103, 3), (25, .bipush 8, 2), (27, .if_icmp .lt 6, 3), (30, .bipush (-3), 2), (32, .ireturn, 1), (33, .aload_n 0, 1), (34, .getfield 10, 3), (37, .getfield 133, 3), (40, .aload_n 0, 1), (41, .getfield 10, 3), (44, .getfield 103, 3), (47, .iload_n 1, 1), (48, .iastore, 1), (49, .aload_n 0, 1), (50, .getfield 10, 3), (53, .dup, 1), (54, .getfield 103, 3), (57, .iconst 1, 1), (58, .iadd, 1), (59, .putfield 103, 3), (62, .aload_n 0, 1), (63, .getfield 10, 3), (66, .getfield 103, 3), (69, .ireturn, 1)]
def tb_m58 : ai_m := (yX5_plan, cX5_plan, 2, (some .int), false, tb_i58, tb_fl_RX5, tb_fp_RX5, tb_ci_RX5, tb_cl_RX5, tb_ml_RX5, [])
def tb_i59 : List (Nat × Instr × Nat) := [(0, .iload_n 1, 1), (1, .iconst 0, 1), (2, .aload_n 0, 1), (3, .getfield 10, 3), (6, .getfield 103, 3), (9, .invokestatic 57, 3), (12, .ifCond .ne 5, 3), (15, .iconst (-1), 1), (16, .ireturn, 1), (17, .aload_n 0, 1), (18, .getfield 10, 3), (21, .getfield 103, 3), (24, .istore_n 2, 1), (25, .aload_n 0, 1), (26, .getfield 10, 3), (29, .iload_n 1, 1), (30, .putfield 103, 3), (33, .iload_n 2, 1), (34, .ireturn, 1)]
def tb_m59 : ai_m := (yX5_cut, cX5_cut, 3, (some .int), false, tb_i59, tb_fl_RX5, tb_fp_RX5, tb_ci_RX5, tb_cl_RX5, tb_ml_RX5, [])
def tb_i60 : List (Nat × Instr × Nat) := [(0, .aload_n 0, 1), (1, .getfield 10, 3), (4, .iload_n 1, 1), (5, .invokevirtual 113, 3), (8, .ifCond .ne 5, 3), (11, .iconst (-1), 1), (12, .ireturn, 1), (13, .aload_n 0, 1), (14, .getfield 10, 3), (17, .iload_n 1, 1), (18, .invokevirtual 144, 3), (21, .ifCond .eq 14, 3), (24, .aload_n 0, 1), (25, .getfield 10, 3), (28, .iload_n 1, 1), (29, .invokevirtual 147, 3), (32, .goto 5, 3), (35, .bipush (-2), 2), (37, .ireturn, 1)]
def tb_m60 : ai_m := (yX5_pull, cX5_pull, 2, (some .int), false, tb_i60, tb_fl_RX5, tb_fp_RX5, tb_ci_RX5, tb_cl_RX5, tb_ml_RX5, [])
def tb_i61 : List (Nat × Instr × Nat) := [(0, .iload_n 1, 1), (1, .iconst 0, 1), (2, .bipush 20, 2), (4, .invokestatic 57, 3), (7, .ifCond .ne 5, 3), (10, .iconst (-1), 1), (11, .ireturn, 1), (12, .iconst 0, 1), (13, .istore_n 2, 1), (14, .iload_n 2, 1), (15, .iload_n 1, 1), (16, .if_icmp .ge 16, 3), (19, .aload_n 0, 1), (20, .getfield 10, 3), (23, .invokevirtual 150, 3), (26, .iinc 2 1, 3), (29, .goto (-15), 3), (32, .aload_n 0, 1), (33, .getfield 10, 3), (36, .getfield 97, 3), (39, .ireturn, 1)]
def tb_m61 : ai_m := (yX5_rest, cX5_rest, 3, (some .int), false, tb_i61, tb_fl_RX5, tb_fp_RX5, tb_ci_RX5, tb_cl_RX5, tb_ml_RX5, [(14, [(0, 2, 0, 0, 20, false, false)], [], [], 0, true)])
def tb_i62 : List (Nat × Instr × Nat) := [(0, .iload_n 1, 1), (1, .iconst 0, 1), (2, .iconst 4, 1), (3, .invokestatic 57, 3), (6, .ifCond .ne 5, 3), (9, .iconst (-1), 1), (10, .ireturn, 1), (11, .aload_n 0, 1), (12, .getfield 16, 3), (15, .aload_n 0, 1), (16, .getfield 10, 3), (19, .invokevirtual 84, 3), (22, .aload_n 0, 1), (23, .getfield 16, 3), (26, .invokevirtual 153, 3), (29, .istore_n 2, 1), (30, .iload_n 1, 1), (31, .tableswitch 69 0 3 #[29, 37, 45, 53], 29), (60, .aload_n 0, 1), (61, .getfield 16, 3), (64, .invokevirtual 106, 3), (67, .ireturn, 1), (68, .aload_n 0, 1), (69, .getfield 16, 3), (72, .invokevirtual 110, 3), (75, .ireturn, 1), (76, .aload_n 0, 1), (77, .getfield 16, 3), (80, .getfield 97, 3), (83, .ireturn, 1), (84, .aload_n 0, 1), (85, .getfield 16, 3), (88, .getfield 100, 3), (91, .aload_n 0, 1), (92, .getfield 10, 3), (95, .getfield 100, 3), (98, .isub, 1), (99, .ireturn, 1), (100, .iload_n 2, 1), (101, .ireturn, 1)]
def tb_m62 : ai_m := (yX5_runs, cX5_runs, 3, (some .int), false, tb_i62, tb_fl_RX5, tb_fp_RX5, tb_ci_RX5, tb_cl_RX5, tb_ml_RX5, [])
def tb_i63 : List (Nat × Instr × Nat) := [(0, .aload_n 0, 1), (1, .getfield 10, 3), (4, .iload_n 1, 1), (5, .invokevirtual 113, 3), (8, .ifCond .ne 5, 3), (11, .iconst (-1), 1), (12, .ireturn, 1), (13, .aload_n 0, 1), (14, .getfield 16, 3), (17, .aload_n 0, 1), (18, .getfield 10, 3), (21, .invokevirtual 84, 3), (24, .aload_n 0, 1), (25, .getfield 16, 3), (28, .invokevirtual 153, 3), (31, .pop, 1), (32, .aload_n 0, 1), (33, .getfield 16, 3), (36, .getfield 123, 3), (39, .iload_n 1, 1), (40, .iaload, 1), (41, .ireturn, 1)]
def tb_m63 : ai_m := (yX5_ahead, cX5_ahead, 2, (some .int), false, tb_i63, tb_fl_RX5, tb_fp_RX5, tb_ci_RX5, tb_cl_RX5, tb_ml_RX5, [])
def tb_i64 : List (Nat × Instr × Nat) := [(0, .aload_n 0, 1), (1, .getfield 10, 3), (4, .iload_n 1, 1), (5, .invokevirtual 113, 3), (8, .ifCond .eq 30, 3), (11, .aload_n 0, 1), (12, .getfield 10, 3), (15, .iload_n 1, 1), (16, .aload_n 0, 1), (17, .getfield 10, 3), (20, .getfield 116, 3), (23, .iload_n 1, 1), (24, .iaload, 1), (25, .aload_n 0, 1), (26, .getfield 10, 3), (29, .getfield 97, 3), (32, .invokevirtual 156, 3), (35, .goto 4, 3), (38, .iconst (-1), 1), (39, .ireturn, 1)]
def tb_m64 : ai_m := (yX5_need, cX5_need, 2, (some .int), false, tb_i64, tb_fl_RX5, tb_fp_RX5, tb_ci_RX5, tb_cl_RX5, tb_ml_RX5, [])
def tb_i65 : List (Nat × Instr × Nat) := [(0, .aload_n 0, 1), (1, .getfield 10, 3), (4, .iload_n 1, 1), (5, .invokevirtual 113, 3), (8, .ifCond .eq 13, 3), (11, .iload_n 2, 1), (12, .iconst 0, 1), (13, .bipush 20, 2), (15, .invokestatic 57, 3), (18, .ifCond .ne 5, 3), (21, .iconst (-1), 1), (22, .ireturn, 1), (23, .iconst 0, 1), (24, .istore_n 3, 1), (25, .iload_n 3, 1), (26, .bipush 20, 2), (28, .if_icmp .gt 36, 3), (31, .iload_n 2, 1), (32, .aload_n 0, 1), (33, .getfield 10, 3), (36, .iload_n 1, 1), (37, .aload_n 0, 1), (38, .getfield 10, 3), (41, .getfield 116, 3), (44, .iload_n 1, 1), (45, .iaload, 1), (46, .iload_n 3, 1), (47, .invokevirtual 156, 3), (50, .invokestatic 160, 3), (53, .ifCond .eq 5, 3), (56, .iload_n 3, 1), (57, .ireturn, 1), (58, .iinc 3 1, 3), (61, .goto (-36), 3), (64, .bipush (-4), 2), (66, .ireturn, 1)]
def tb_m65 : ai_m := (yX5_least, cX5_least, 4, (some .int), false, tb_i65, tb_fl_RX5, tb_fp_RX5, tb_ci_RX5, tb_cl_RX5, tb_ml_RX5, [(25, [(0, 3, 0, 0, 21, false, false)], [], [], 0, true)])
def tb_i66 : List (Nat × Instr × Nat) := [(0, .iload_n 1, 1), (1, .bipush (-4), 2), (3, .if_icmp .eq 12, 3), (6, .iload_n 1, 1), (7, .iload_n 0, 1), (8, .if_icmp .gt 7, 3), (11, .iconst 1, 1), (12, .goto 4, 3), (15, .iconst 0, 1), (16, .ireturn, 1)]
def tb_m66 : ai_m := (yX5_isWonBy, cX5_isWonBy, 2, (some .boolean), false, tb_i66, tb_fl_RX5, tb_fp_RX5, tb_ci_RX5, tb_cl_RX5, tb_ml_RX5, [])
def tb_i67 : List (Nat × Instr × Nat) := [(0, .iload_n 1, 1), (1, .iconst 0, 1), (2, .iconst 4, 1), (3, .invokestatic 57, 3), (6, .ifCond .eq 17, 3), (9, .iload_n 2, 1), (10, .ifCond .lt 13, 3), (13, .iload_n 2, 1), (14, .iconst 2, 1), (15, .bipush 9, 2), (17, .invokestatic 57, 3), (20, .ifCond .eq 5, 3), (23, .iconst (-1), 1), (24, .ireturn, 1), (25, .iload_n 2, 1), (26, .bipush 10, 2), (28, .isub, 1), (29, .istore_n 3, 1), (30, .iload_n 3, 1), (31, .iload_n 1, 1), (32, .if_icmp .lt 6, 3), (35, .bipush (-4), 2), (37, .ireturn, 1), (38, .aload_n 0, 1), (39, .iload_n 1, 1), (40, .invokevirtual 164, 3), (43, .istore 4, 2), (45, .iload_n 3, 1), (46, .ifCond .lt 12, 3), (49, .aload_n 0, 1), (50, .iload 4, 2), (52, .iload_n 1, 1), (53, .iload_n 3, 1), (54, .invokevirtual 167, 3), (57, .ireturn, 1), (58, .aload_n 0, 1), (59, .iload 4, 2), (61, .iload_n 1, 1), (62, .invokevirtual 170, 3), (65, .iload_n 2, 1), (66, .ifCond .ne 13, 3), (69, .aload_n 0, 1), (70, .getfield 16, 3), (73, .invokevirtual 174, 3), (76, .goto 10, 3), (79, .aload_n 0, 1), (80, .getfield 16, 3), (83, .invokevirtual 110, 3), (86, .ireturn, 1)]
def tb_m67 : ai_m := (yX5_best, cX5_best, 5, (some .int), false, tb_i67, tb_fl_RX5, tb_fp_RX5, tb_ci_RX5, tb_cl_RX5, tb_ml_RX5, [])
def tb_i68 : List (Nat × Instr × Nat) := [(0, .iconst 1, 1), (1, .istore_n 2, 1), (2, .iconst 0, 1), (3, .istore_n 3, 1), (4, .iload_n 3, 1), (5, .iload_n 1, 1), (6, .if_icmp .ge 21, 3), (9, .iload_n 2, 1), (10, .aload_n 0, 1), (11, .getfield 10, 3), (14, .getfield 94, 3), (17, .iconst 1, 1), (18, .iadd, 1), (19, .imul, 1), (20, .istore_n 2, 1), (21, .iinc 3 1, 3), (24, .goto (-20), 3), (27, .iconst 0, 1), (28, .istore_n 3, 1), (29, .iconst (-1), 1), (30, .istore 4, 2), (32, .iconst (-1), 1), (33, .istore 5, 2), (35, .iconst 0, 1), (36, .istore 6, 2), (38, .iload 6, 2), (40, .iload_n 2, 1), (41, .if_icmp .ge 66, 3), (44, .aload_n 0, 1), (45, .iload 6, 2), (47, .iload_n 1, 1), (48, .invokevirtual 170, 3), (51, .aload_n 0, 1), (52, .getfield 16, 3), (55, .invokevirtual 174, 3), (58, .istore 7, 2), (60, .aload_n 0, 1), (61, .getfield 16, 3), (64, .invokevirtual 110, 3), (67, .istore 8, 2), (69, .iload 7, 2), (71, .iload 4, 2), (73, .if_icmp .gt 17, 3), (76, .iload 7, 2), (78, .iload 4, 2), (80, .if_icmp .ne 21, 3), (83, .iload 8, 2), (85, .iload 5, 2), (87, .if_icmp .le 14, 3), (90, .iload 6, 2), (92, .istore_n 3, 1), (93, .iload 7, 2), (95, .istore 4, 2), (97, .iload 8, 2), (99, .istore 5, 2), (101, .iinc 6 1, 3), (104, .goto (-66), 3), (107, .iload_n 3, 1), (108, .ireturn, 1)]
def tb_m68 : ai_m := (yX5_bestRow, cX5_bestRow, 9, (some .int), false, tb_i68, tb_fl_RX5, tb_fp_RX5, tb_ci_RX5, tb_cl_RX5, tb_ml_RX5, [(4, [(0, 2, 0, (-2147483648), 2147483647, false, false), (0, 3, 0, 0, 4, false, false)], [], [], 1, true), (38, [(0, 3, 0, (-2147483648), 2147483647, false, false), (0, 4, 0, (-1), 63, false, false), (0, 5, 0, (-2147483648), 2147483647, false, false), (0, 6, 0, (-2147483648), 2147483647, false, false)], [], [], 3, true)])
def tb_i69 : List (Nat × Instr × Nat) := [(0, .aload_n 0, 1), (1, .getfield 16, 3), (4, .aload_n 0, 1), (5, .getfield 10, 3), (8, .invokevirtual 84, 3), (11, .iconst 0, 1), (12, .istore_n 3, 1), (13, .iload_n 3, 1), (14, .iload_n 2, 1), (15, .if_icmp .ge 24, 3), (18, .aload_n 0, 1), (19, .getfield 16, 3), (22, .aload_n 0, 1), (23, .iload_n 1, 1), (24, .iload_n 2, 1), (25, .iload_n 3, 1), (26, .invokevirtual 167, 3), (29, .invokevirtual 177, 3), (32, .pop, 1), (33, .iinc 3 1, 3), (36, .goto (-23), 3), (39, .return_, 1)]
def tb_m69 : ai_m := (yX5_tryRow, cX5_tryRow, 4, none, false, tb_i69, tb_fl_RX5, tb_fp_RX5, tb_ci_RX5, tb_cl_RX5, tb_ml_RX5, [(13, [(0, 3, 0, 0, 4, false, false)], [], [], 0, true)])
def tb_i70 : List (Nat × Instr × Nat) := [(0, .aload_n 0, 1), (1, .getfield 10, 3), (4, .getfield 94, 3), (7, .iconst 1, 1), (8, .iadd, 1), (9, .istore 4, 2), (11, .iload 4, 2), (13, .iconst 1, 1), (14, .if_icmp .ge 5, 3), (17, .iconst 4, 1), (18, .ireturn, 1), (19, .iload_n 1, 1), (20, .istore 5, 2), (22, .iload_n 2, 1), (23, .iconst 1, 1), (24, .isub, 1), (25, .istore 6, 2), (27, .iload 6, 2), (29, .iload_n 3, 1), (30, .if_icmp .le 16, 3), (33, .iload 5, 2), (35, .iload 4, 2), (37, .idiv, 1), (38, .istore 5, 2), (40, .iinc 6 (-1), 3), (43, .goto (-16), 3), (46, .iload 5, 2), (48, .iload 4, 2), (50, .irem, 1), (51, .istore 6, 2), (53, .iload 6, 2), (55, .aload_n 0, 1), (56, .getfield 10, 3), (59, .getfield 94, 3), (62, .if_icmp .ne 7, 3), (65, .iconst 4, 1), (66, .goto 5, 3), (69, .iload 6, 2), (71, .ireturn, 1)]
def tb_m70 : ai_m := (yX5_actOfRow, cX5_actOfRow, 7, (some .int), false, tb_i70, tb_fl_RX5, tb_fp_RX5, tb_ci_RX5, tb_cl_RX5, tb_ml_RX5, [(27, [(0, 5, 0, (-2147483648), 2147483647, false, false), (0, 6, 0, 0, 3, false, false)], [], [], 1, false)])
def tb_i71 : List (Nat × Instr × Nat) := [(0, .aload_n 0, 1), (1, .getfield 10, 3), (4, .iload_n 1, 1), (5, .invokevirtual 113, 3), (8, .ifCond .eq 13, 3), (11, .iload_n 2, 1), (12, .iconst 0, 1), (13, .bipush 20, 2), (15, .invokestatic 57, 3), (18, .ifCond .ne 5, 3), (21, .iconst (-1), 1), (22, .ireturn, 1), (23, .iconst 0, 1), (24, .istore_n 3, 1), (25, .iload_n 3, 1), (26, .iconst 4, 1), (27, .if_icmp .ge 34, 3), (30, .iload_n 2, 1), (31, .aload_n 0, 1), (32, .getfield 10, 3), (35, .iload_n 1, 1), (36, .iload_n 3, 1), (37, .aload_n 0, 1), (38, .getfield 10, 3), (41, .getfield 97, 3), (44, .invokevirtual 156, 3), (47, .invokestatic 160, 3), (50, .ifCond .ne 5, 3), (53, .iload_n 3, 1), (54, .ireturn, 1), (55, .iinc 3 1, 3), (58, .goto (-33), 3), (61, .bipush (-4), 2), (63, .ireturn, 1)]
def tb_m71 : ai_m := (yX5_hide, cX5_hide, 4, (some .int), false, tb_i71, tb_fl_RX5, tb_fp_RX5, tb_ci_RX5, tb_cl_RX5, tb_ml_RX5, [(25, [(0, 3, 0, 0, 4, false, false)], [], [], 0, true)])
def tb_i72 : List (Nat × Instr × Nat) := [(0, .iload_n 1, 1), (1, .iconst 0, 1), (2, .iconst 1, 1), (3, .invokestatic 57, 3), (6, .ifCond .ne 5, 3), (9, .iconst (-1), 1), (10, .ireturn, 1), (11, .aload_n 0, 1), (12, .getfield 16, 3), (15, .aload_n 0, 1), (16, .getfield 10, 3), (19, .invokevirtual 84, 3), (22, .aload_n 0, 1), (23, .getfield 16, 3), (26, .invokevirtual 153, 3), (29, .pop, 1), (30, .aload_n 0, 1), (31, .getfield 16, 3), (34, .getfield 100, 3), (37, .istore_n 2, 1), (38, .bipush (-4), 2), (40, .istore_n 3, 1), (41, .iconst 0, 1), (42, .istore 4, 2), (44, .iload 4, 2), (46, .aload_n 0, 1), (47, .getfield 10, 3), (50, .getfield 103, 3), (53, .if_icmp .ge 61, 3), (56, .iload 4, 2), (58, .iconst 1, 1), (59, .iadd, 1), (60, .istore 5, 2), (62, .iload 5, 2), (64, .aload_n 0, 1), (65, .getfield 10, 3), (68, .getfield 103, 3), (71, .if_icmp .ge 37, 3), (74, .aload_n 0, 1), (75, .iload 4, 2), (77, .iload 5, 2), (79, .invokevirtual 180, 3), (82, .istore 6, 2), (84, .iload 6, 2), (86, .iload_n 2, 1), (87, .if_icmp .ge 15, 3), (90, .iload 6, 2), (92, .istore_n 2, 1), (93, .bipush 10, 2), (95, .iload 4, 2), (97, .imul, 1), (98, .iload 5, 2), (100, .iadd, 1), (101, .istore_n 3, 1), (102, .iinc 5 1, 3), (105, .goto (-43), 3), (108, .iinc 4 1, 3), (111, .goto (-67), 3), (114, .iload_n 3, 1), (115, .bipush (-4), 2), (117, .if_icmp .eq 7, 3), (120, .iload_n 1, 1), (121, .ifCond .ne 5, 3), (124, .iload_n 3, 1), (125, .ireturn, 1), (126, .iload_n 2, 1), (127, .aload_n 0, 1), (128, .getfield 10, 3), (131, .getfield 100, 3), (134, .isub, 1), (135, .ireturn, 1)]
def tb_m72 : ai_m := (yX5_swap, cX5_swap, 7, (some .int), false, tb_i72, tb_fl_RX5, tb_fp_RX5, tb_ci_RX5, tb_cl_RX5, tb_ml_RX5, [(44, [(0, 2, 0, (-2147483648), 2147483647, false, false), (0, 3, 0, (-4), 77, false, false), (0, 4, 0, 0, 8, false, false)], [], [(7, 2, 2)], 2, true), (62, [(0, 2, 0, (-2147483648), 2147483647, false, false), (0, 3, 0, (-4), 77, false, false), (0, 5, 0, 1, 8, false, false)], [], [], 2, true)])
def tb_i73 : List (Nat × Instr × Nat) := [(0, .aload_n 0, 1), (1, .getfield 16, 3), (4, .aload_n 0, 1), (5, .getfield 10, 3), (8, .invokevirtual 84, 3), (11, .aload_n 0, 1), (12, .getfield 16, 3), (15, .getfield 133, 3), (18, .iload_n 1, 1), (19, .aload_n 0, 1), (20, .getfield 10, 3), (23, .getfield 133, 3), (26, .iload_n 2, 1), (27, .iaload, 1), (28, .iastore, 1), (29, .aload_n 0, 1), (30, .getfield 16, 3), (33, .getfield 133, 3), (36, .iload_n 2, 1), (37, .aload_n 0, 1), (38, .getfield 10, 3), (41, .getfield 133, 3), (44, .iload_n 1, 1), (45, .iaload, 1), (46, .iastore, 1), (47, .aload_n 0, 1), (48, .getfield 16, 3), (51, .invokevirtual 153, 3), (54, .pop, 1), (55, .aload_n 0, 1), (56, .getfield 16, 3), (59, .getfield 100, 3), (62, .ireturn, 1)]
def tb_m73 : ai_m := (yX5_laughsIfChanged, cX5_laughsIfChanged, 3, (some .int), false, tb_i73, tb_fl_RX5, tb_fp_RX5, tb_ci_RX5, tb_cl_RX5, tb_ml_RX5, [])
def tb_i74 : List (Nat × Instr × Nat) := [(0, .iload_n 1, 1), (1, .iconst 0, 1), (2, .iconst 1, 1), (3, .invokestatic 57, 3), (6, .ifCond .ne 5, 3), (9, .iconst (-1), 1), (10, .ireturn, 1), (11, .aload_n 0, 1), (12, .getfield 16, 3), (15, .aload_n 0, 1), (16, .getfield 10, 3), (19, .invokevirtual 84, 3), (22, .aload_n 0, 1), (23, .getfield 16, 3), (26, .invokevirtual 153, 3), (29, .pop, 1), (30, .aload_n 0, 1), (31, .getfield 16, 3), (34, .invokevirtual 110, 3), (37, .istore_n 2, 1), (38, .bipush (-4), 2), (40, .istore_n 3, 1), (41, .iconst 0, 1), (42, .istore 4, 2), (44, .iload 4, 2), (46, .aload_n 0, 1), (47, .getfield 10, 3), (50, .getfield 94, 3), (53, .if_icmp .ge 29, 3), (56, .aload_n 0, 1), (57, .iload 4, 2), (59, .invokevirtual 183, 3), (62, .istore 5, 2), (64, .iload 5, 2), (66, .iload_n 2, 1), (67, .if_icmp .le 9, 3), (70, .iload 5, 2), (72, .istore_n 2, 1), (73, .iload 4, 2), (75, .istore_n 3, 1), (76, .iinc 4 1, 3), (79, .goto (-35), 3), (82, .iload_n 3, 1), (83, .bipush (-4), 2), (85, .if_icmp .eq 7, 3), (88, .iload_n 1, 1), (89, .ifCond .ne 7, 3), (92, .iload_n 3, 1), (93, .goto 4, 3), (96, .iload_n 2, 1), (97, .ireturn, 1)]
def tb_m74 : ai_m := (yX5_unmask, cX5_unmask, 6, (some .int), false, tb_i74, tb_fl_RX5, tb_fp_RX5, tb_ci_RX5, tb_cl_RX5, tb_ml_RX5, [(44, [(0, 2, 0, (-2147483648), 2147483647, false, false), (0, 3, 0, (-4), 3, false, false), (0, 4, 0, 0, 4, false, false)], [], [], 2, true)])
def tb_i75 : List (Nat × Instr × Nat) := [(0, .aload_n 0, 1), (1, .getfield 16, 3), (4, .aload_n 0, 1), (5, .getfield 10, 3), (8, .invokevirtual 84, 3), (11, .aload_n 0, 1), (12, .getfield 16, 3), (15, .getfield 116, 3), (18, .iload_n 1, 1), (19, .iconst 0, 1), (20, .iastore, 1), (21, .aload_n 0, 1), (22, .getfield 16, 3), (25, .invokevirtual 153, 3), (28, .pop, 1), (29, .aload_n 0, 1), (30, .getfield 16, 3), (33, .invokevirtual 110, 3), (36, .ireturn, 1)]
def tb_m75 : ai_m := (yX5_movedIfPlain, cX5_movedIfPlain, 2, (some .int), false, tb_i75, tb_fl_RX5, tb_fp_RX5, tb_ci_RX5, tb_cl_RX5, tb_ml_RX5, [])
def tb_i76 : List (Nat × Instr × Nat) := [(0, .aload_n 0, 1), (1, .iload_n 1, 1), (2, .iload_n 2, 1), (3, .iload_n 3, 1), (4, .iload 4, 2), (6, .invokevirtual 186, 3), (9, .ifCond .ne 7, 3), (12, .ldc2_w 190, 3), (15, .lreturn, 1), (16, .aload_n 0, 1), (17, .getfield 46, 3), (20, .aload_n 0, 1), (21, .getfield 10, 3), (24, .iload_n 2, 1), (25, .iload_n 3, 1), (26, .iload_n 1, 1), (27, .invokevirtual 192, 3), (30, .aload_n 0, 1), (31, .getfield 46, 3), (34, .aload_n 0, 1), (35, .getfield 46, 3), (38, .invokevirtual 196, 3), (41, .iload 4, 2), (43, .invokevirtual 200, 3), (46, .lreturn, 1)]
def tb_m76 : ai_m := (yX5_luck, cX5_luck, 5, (some .long), false, tb_i76, tb_fl_RX5, tb_fp_RX5, tb_ci_RX5, tb_cl_RX5, tb_ml_RX5, [])
def tb_i77 : List (Nat × Instr × Nat) := [(0, .aload_n 0, 1), (1, .iload_n 1, 1), (2, .iload_n 2, 1), (3, .iload_n 3, 1), (4, .iload 4, 2), (6, .invokevirtual 186, 3), (9, .ifCond .ne 7, 3), (12, .ldc2_w 190, 3), (15, .lreturn, 1), (16, .aload_n 0, 1), (17, .getfield 46, 3), (20, .aload_n 0, 1), (21, .getfield 10, 3), (24, .iload_n 2, 1), (25, .iload_n 3, 1), (26, .iload_n 1, 1), (27, .invokevirtual 192, 3), (30, .aload_n 0, 1), (31, .getfield 46, 3), (34, .aload_n 0, 1), (35, .getfield 46, 3), (38, .invokevirtual 204, 3), (41, .iload 4, 2), (43, .invokevirtual 200, 3), (46, .lreturn, 1)]
def tb_m77 : ai_m := (yX5_mean, cX5_mean, 5, (some .long), false, tb_i77, tb_fl_RX5, tb_fp_RX5, tb_ci_RX5, tb_cl_RX5, tb_ml_RX5, [])
def tb_i78 : List (Nat × Instr × Nat) := [(0, .iload_n 1, 1), (1, .iconst 0, 1), (2, .bipush 10, 2), (4, .invokestatic 57, 3), (7, .ifCond .eq 38, 3), (10, .aload_n 0, 1), (11, .getfield 10, 3), (14, .iload_n 2, 1), (15, .invokevirtual 113, 3), (18, .ifCond .eq 27, 3), (21, .iload_n 3, 1), (22, .iconst 0, 1), (23, .bipush 8, 2), (25, .invokestatic 57, 3), (28, .ifCond .eq 17, 3), (31, .iload 4, 2), (33, .iconst 0, 1), (34, .iconst 1, 1), (35, .invokestatic 57, 3), (38, .ifCond .eq 7, 3), (41, .iconst 1, 1), (42, .goto 4, 3), (45, .iconst 0, 1), (46, .ireturn, 1)]
def tb_m78 : ai_m := (yX5_areOdds, cX5_areOdds, 5, (some .boolean), false, tb_i78, tb_fl_RX5, tb_fp_RX5, tb_ci_RX5, tb_cl_RX5, tb_ml_RX5, [])
def tb_i79 : List (Nat × Instr × Nat) := [(0, .aload_n 0, 1), (1, .getfield 10, 3), (4, .iload_n 1, 1), (5, .invokevirtual 113, 3), (8, .ifCond .eq 34, 3), (11, .iload_n 2, 1), (12, .iconst 1, 1), (13, .bipush 20, 2), (15, .invokestatic 57, 3), (18, .ifCond .eq 24, 3), (21, .iload_n 3, 1), (22, .iconst 0, 1), (23, .bipush 20, 2), (25, .invokestatic 57, 3), (28, .ifCond .eq 14, 3), (31, .iload 4, 2), (33, .iconst 0, 1), (34, .bipush 20, 2), (36, .invokestatic 57, 3), (39, .ifCond .ne 5, 3), (42, .iconst (-1), 1), (43, .ireturn, 1), (44, .aload_n 0, 1), (45, .getfield 39, 3), (48, .iload_n 1, 1), (49, .iload_n 2, 1), (50, .iload_n 3, 1), (51, .iload 4, 2), (53, .invokevirtual 207, 3), (56, .ifCond .eq 13, 3), (59, .aload_n 0, 1), (60, .getfield 39, 3), (63, .getfield 88, 3), (66, .goto 5, 3), (69, .bipush (-3), 2), (71, .ireturn, 1)]
def tb_m79 : ai_m := (yX5_see, cX5_see, 5, (some .int), false, tb_i79, tb_fl_RX5, tb_fp_RX5, tb_ci_RX5, tb_cl_RX5, tb_ml_RX5, [])
def tb_i80 : List (Nat × Instr × Nat) := [(0, .iload_n 1, 1), (1, .iconst 0, 1), (2, .aload_n 0, 1), (3, .getfield 39, 3), (6, .getfield 88, 3), (9, .invokestatic 57, 3), (12, .ifCond .ne 5, 3), (15, .iconst (-1), 1), (16, .ireturn, 1), (17, .aload_n 0, 1), (18, .getfield 39, 3), (21, .getfield 88, 3), (24, .istore_n 2, 1), (25, .aload_n 0, 1), (26, .getfield 39, 3), (29, .iload_n 1, 1), (30, .putfield 88, 3), (33, .iload_n 2, 1), (34, .ireturn, 1)]
def tb_m80 : ai_m := (yX5_forget, cX5_forget, 3, (some .int), false, tb_i80, tb_fl_RX5, tb_fp_RX5, tb_ci_RX5, tb_cl_RX5, tb_ml_RX5, [])
def tb_i81 : List (Nat × Instr × Nat) := [(0, .aload_n 0, 1), (1, .getfield 10, 3), (4, .iload_n 1, 1), (5, .invokevirtual 113, 3), (8, .ifCond .eq 14, 3), (11, .aload_n 0, 1), (12, .getfield 39, 3), (15, .iload_n 1, 1), (16, .invokevirtual 210, 3), (19, .goto 4, 3), (22, .iconst (-1), 1), (23, .ireturn, 1)]
def tb_m81 : ai_m := (yX5_kinds, cX5_kinds, 2, (some .int), false, tb_i81, tb_fl_RX5, tb_fp_RX5, tb_ci_RX5, tb_cl_RX5, tb_ml_RX5, [])
def tb_i82 : List (Nat × Instr × Nat) := [(0, .aload_n 0, 1), (1, .getfield 10, 3), (4, .iload_n 1, 1), (5, .invokevirtual 113, 3), (8, .ifCond .eq 12, 3), (11, .iload_n 2, 1), (12, .iconst 0, 1), (13, .iconst 1, 1), (14, .invokestatic 57, 3), (17, .ifCond .ne 5, 3), (20, .iconst (-1), 1), (21, .ireturn, 1), (22, .aload_n 0, 1), (23, .getfield 39, 3), (26, .iload_n 1, 1), (27, .invokevirtual 210, 3), (30, .istore_n 3, 1), (31, .iload_n 3, 1), (32, .invokestatic 213, 3), (35, .istore 4, 2), (37, .bipush (-4), 2), (39, .istore 5, 2), (41, .iconst 1, 1), (42, .istore 6, 2), (44, .iload 6, 2), (46, .bipush 20, 2), (48, .if_icmp .gt 41, 3), (51, .iload_n 3, 1), (52, .iload 6, 2), (54, .aload_n 0, 1), (55, .getfield 10, 3), (58, .getfield 126, 3), (61, .iload_n 1, 1), (62, .iaload, 1), (63, .invokestatic 218, 3), (66, .istore 7, 2), (68, .iload 7, 2), (70, .iload 4, 2), (72, .if_icmp .ge 11, 3), (75, .iload 7, 2), (77, .istore 4, 2), (79, .iload 6, 2), (81, .istore 5, 2), (83, .iinc 6 1, 3), (86, .goto (-42), 3), (89, .iload 5, 2), (91, .bipush (-4), 2), (93, .if_icmp .eq 7, 3), (96, .iload_n 2, 1), (97, .ifCond .ne 8, 3), (100, .iload 5, 2), (102, .goto 5, 3), (105, .iload 4, 2), (107, .ireturn, 1)]
def tb_m82 : ai_m := (yX5_ask, cX5_ask, 8, (some .int), false, tb_i82, tb_fl_RX5, tb_fp_RX5, tb_ci_RX5, tb_cl_RX5, tb_ml_RX5, [(44, [(0, 4, 0, 0, 63, false, false), (0, 5, 0, (-4), 20, false, false), (0, 6, 0, 1, 21, false, false)], [], [], 2, true)])
def tb_i83 : List (Nat × Instr × Nat) := [(0, .iconst 0, 1), (1, .istore_n 3, 1), (2, .iconst 0, 1), (3, .istore 4, 2), (5, .iload 4, 2), (7, .iconst 4, 1), (8, .if_icmp .ge 44, 3), (11, .iload_n 0, 1), (12, .iload 4, 2), (14, .invokestatic 221, 3), (17, .ifCond .eq 29, 3), (20, .iload 4, 2), (22, .iload_n 1, 1), (23, .iload_n 2, 1), (24, .invokestatic 224, 3), (27, .istore 5, 2), (29, .iload_n 3, 1), (30, .iload_n 0, 1), (31, .iload 5, 2), (33, .iload_n 1, 1), (34, .iload_n 2, 1), (35, .invokestatic 227, 3), (38, .iand, 1), (39, .invokestatic 213, 3), (42, .invokestatic 230, 3), (45, .istore_n 3, 1), (46, .iinc 4 1, 3), (49, .goto (-44), 3), (52, .iload_n 3, 1), (53, .ireturn, 1)]
def tb_m83 : ai_m := (yX5_leftAtWorst, cX5_leftAtWorst, 6, (some .int), false, tb_i83, tb_fl_RX5, tb_fp_RX5, tb_ci_RX5, tb_cl_RX5, tb_ml_RX5, [(5, [(0, 3, 0, 0, 63, false, false), (0, 4, 0, 0, 4, false, false)], [], [], 1, true)])
def tb_i84 : List (Nat × Instr × Nat) := [(0, .aload_n 0, 1), (1, .getfield 10, 3), (4, .iload_n 1, 1), (5, .invokevirtual 113, 3), (8, .ifCond .eq 33, 3), (11, .iload_n 2, 1), (12, .iconst 0, 1), (13, .bipush 20, 2), (15, .invokestatic 57, 3), (18, .ifCond .eq 23, 3), (21, .iload_n 3, 1), (22, .iconst 0, 1), (23, .bipush 20, 2), (25, .invokestatic 57, 3), (28, .ifCond .eq 13, 3), (31, .iload 4, 2), (33, .iconst 0, 1), (34, .iconst 2, 1), (35, .invokestatic 57, 3), (38, .ifCond .ne 5, 3), (41, .iconst (-1), 1), (42, .ireturn, 1), (43, .aload_n 0, 1), (44, .getfield 39, 3), (47, .iload_n 1, 1), (48, .invokevirtual 210, 3), (51, .istore 5, 2), (53, .iconst 0, 1), (54, .istore 6, 2), (56, .bipush (-4), 2), (58, .istore 7, 2), (60, .bipush (-4), 2), (62, .istore 8, 2), (64, .iconst 1, 1), (65, .istore 9, 2), (67, .iload 9, 2), (69, .bipush 20, 2), (71, .if_icmp .gt 45, 3), (74, .iload 5, 2), (76, .iload_n 3, 1), (77, .iload 9, 2), (79, .iload_n 2, 1), (80, .invokestatic 227, 3), (83, .iand, 1), (84, .ifCond .eq 26, 3), (87, .iinc 6 1, 3), (90, .iload 7, 2), (92, .bipush (-4), 2), (94, .if_icmp .ne 8, 3), (97, .iload 9, 2), (99, .goto 5, 3), (102, .iload 7, 2), (104, .istore 7, 2), (106, .iload 9, 2), (108, .istore 8, 2), (110, .iinc 9 1, 3), (113, .goto (-46), 3), (116, .iload 4, 2), (118, .ifCond .ne 6, 3), (121, .iload 6, 2), (123, .ireturn, 1), (124, .iload 4, 2), (126, .iconst 1, 1), (127, .if_icmp .ne 8, 3), (130, .iload 7, 2), (132, .goto 5, 3), (135, .iload 8, 2), (137, .ireturn, 1)]
def tb_m84 : ai_m := (yX5_arms, cX5_arms, 10, (some .int), false, tb_i84, tb_fl_RX5, tb_fp_RX5, tb_ci_RX5, tb_cl_RX5, tb_ml_RX5, [(67, [(0, 6, 0, (-2147483648), 2147483647, false, false), (0, 7, 0, (-4), 20, false, false), (0, 8, 0, (-4), 20, false, false), (0, 9, 0, 1, 21, false, false)], [], [], 3, true)])
def tb_i85 : List (Nat × Instr × Nat) := [(0, .iload_n 2, 1), (1, .iconst 1, 1), (2, .bipush 60, 2), (4, .invokestatic 57, 3), (7, .ifCond .eq 12, 3), (10, .iload_n 3, 1), (11, .iconst 0, 1), (12, .iconst 1, 1), (13, .invokestatic 57, 3), (16, .ifCond .ne 5, 3), (19, .iconst (-1), 1), (20, .ireturn, 1), (21, .aload_n 0, 1), (22, .getfield 10, 3), (25, .getfield 94, 3), (28, .iconst 1, 1), (29, .if_icmp .ge 6, 3), (32, .bipush (-2), 2), (34, .ireturn, 1), (35, .aload_n 0, 1), (36, .getfield 16, 3), (39, .aload_n 0, 1), (40, .getfield 10, 3), (43, .invokevirtual 84, 3), (46, .iload_n 1, 1), (47, .istore 4, 2), (49, .iconst 0, 1), (50, .istore 5, 2), (52, .iload 5, 2), (54, .iload_n 2, 1), (55, .if_icmp .ge 65, 3), (58, .iload 4, 2), (60, .ldc 235, 2), (62, .imul, 1), (63, .sipush 12345, 3), (66, .iadd, 1), (67, .istore 4, 2), (69, .iload 4, 2), (71, .bipush 16, 2), (73, .iushr, 1), (74, .sipush 32767, 3), (77, .iand, 1), (78, .aload_n 0, 1), (79, .getfield 10, 3), (82, .getfield 94, 3), (85, .irem, 1), (86, .istore 6, 2), (88, .aload_n 0, 1), (89, .getfield 16, 3), (92, .aload_n 0, 1), (93, .getfield 16, 3), (96, .iload 6, 2), (98, .invokevirtual 144, 3), (101, .ifCond .eq 8, 3), (104, .iload 6, 2), (106, .goto 4, 3), (109, .iconst 4, 1), (110, .invokevirtual 177, 3), (113, .pop, 1), (114, .iinc 5 1, 3), (117, .goto (-65), 3), (120, .iload_n 3, 1), (121, .ifCond .ne 13, 3), (124, .aload_n 0, 1), (125, .getfield 16, 3), (128, .invokevirtual 106, 3), (131, .goto 18, 3), (134, .aload_n 0, 1), (135, .getfield 16, 3), (138, .getfield 100, 3), (141, .aload_n 0, 1), (142, .getfield 10, 3), (145, .getfield 100, 3), (148, .isub, 1), (149, .ireturn, 1)]
def tb_m85 : ai_m := (yX5_drift, cX5_drift, 7, (some .int), false, tb_i85, tb_fl_RX5, tb_fp_RX5, tb_ci_RX5, tb_cl_RX5, tb_ml_RX5, [(52, [(0, 4, 0, (-2147483648), 2147483647, false, false), (0, 5, 0, 0, 60, false, false)], [], [], 1, true)])
def tb_i86 : List (Nat × Instr × Nat) := [(0, .iload_n 1, 1), (1, .iconst 0, 1), (2, .iconst 1, 1), (3, .invokestatic 57, 3), (6, .ifCond .ne 5, 3), (9, .iconst (-1), 1), (10, .ireturn, 1), (11, .aload_n 0, 1), (12, .getfield 25, 3), (15, .iload_n 1, 1), (16, .baload, 1), (17, .ifCond .eq 7, 3), (20, .iconst 1, 1), (21, .goto 4, 3), (24, .iconst 0, 1), (25, .istore_n 2, 1), (26, .aload_n 0, 1), (27, .iload_n 1, 1), (28, .invokevirtual 236, 3), (31, .aload_n 0, 1), (32, .getfield 10, 3), (35, .invokevirtual 84, 3), (38, .aload_n 0, 1), (39, .getfield 25, 3), (42, .iload_n 1, 1), (43, .iconst 1, 1), (44, .bastore, 1), (45, .iload_n 2, 1), (46, .ireturn, 1)]
def tb_m86 : ai_m := (yX5_keep, cX5_keep, 3, (some .int), false, tb_i86, tb_fl_RX5, tb_fp_RX5, tb_ci_RX5, tb_cl_RX5, tb_ml_RX5, [])
def tb_i87 : List (Nat × Instr × Nat) := [(0, .iload_n 1, 1), (1, .iconst 0, 1), (2, .iconst 1, 1), (3, .invokestatic 57, 3), (6, .ifCond .ne 5, 3), (9, .iconst (-1), 1), (10, .ireturn, 1), (11, .aload_n 0, 1), (12, .getfield 25, 3), (15, .iload_n 1, 1), (16, .baload, 1), (17, .ifCond .ne 6, 3), (20, .bipush (-2), 2), (22, .ireturn, 1), (23, .aload_n 0, 1), (24, .getfield 10, 3), (27, .aload_n 0, 1), (28, .iload_n 1, 1), (29, .invokevirtual 236, 3), (32, .invokevirtual 84, 3), (35, .aload_n 0, 1), (36, .getfield 10, 3), (39, .getfield 100, 3), (42, .ireturn, 1)]
def tb_m87 : ai_m := (yX5_back, cX5_back, 2, (some .int), false, tb_i87, tb_fl_RX5, tb_fp_RX5, tb_ci_RX5, tb_cl_RX5, tb_ml_RX5, [])
def tb_i88 : List (Nat × Instr × Nat) := [(0, .iload_n 1, 1), (1, .ifCond .ne 10, 3), (4, .aload_n 0, 1), (5, .getfield 19, 3), (8, .goto 7, 3), (11, .aload_n 0, 1), (12, .getfield 22, 3), (15, .areturn, 1)]
def tb_m88 : ai_m := (yX5_imageAt, cX5_imageAt, 2, (some (.object "HornTests$Evening")), false, tb_i88, tb_fl_RX5, tb_fp_RX5, tb_ci_RX5, tb_cl_RX5, tb_ml_RX5, [])
def tb_i89 : List (Nat × Instr × Nat) := [(0, .iload_n 1, 1), (1, .invokestatic 240, 3), (4, .ifCond .eq 18, 3), (7, .iload_n 2, 1), (8, .iconst 0, 1), (9, .iconst 2, 1), (10, .invokestatic 57, 3), (13, .ifCond .eq 9, 3), (16, .iload_n 3, 1), (17, .bipush 40, 2), (19, .if_icmp .le 5, 3), (22, .iconst (-1), 1), (23, .ireturn, 1), (24, .iload_n 3, 1), (25, .ifCond .ge 6, 3), (28, .bipush (-14), 2), (30, .ireturn, 1), (31, .aload_n 0, 1), (32, .getfield 53, 3), (35, .iload_n 1, 1), (36, .iload_n 2, 1), (37, .iload_n 3, 1), (38, .invokevirtual 241, 3), (41, .iconst 1, 1), (42, .ireturn, 1)]
def tb_m89 : ai_m := (yX5_sheet, cX5_sheet, 4, (some .int), false, tb_i89, tb_fl_RX5, tb_fp_RX5, tb_ci_RX5, tb_cl_RX5, tb_ml_RX5, [])
def tb_i90 : List (Nat × Instr × Nat) := [(0, .iload_n 1, 1), (1, .invokestatic 240, 3), (4, .ifCond .ne 5, 3), (7, .iconst (-1), 1), (8, .ireturn, 1), (9, .aload_n 0, 1), (10, .getfield 53, 3), (13, .iload_n 1, 1), (14, .iload_n 2, 1), (15, .invokevirtual 245, 3), (18, .istore 4, 2), (20, .iload 4, 2), (22, .ifCond .eq 9, 3), (25, .bipush (-10), 2), (27, .iload 4, 2), (29, .isub, 1), (30, .ireturn, 1), (31, .aload_n 0, 1), (32, .getfield 53, 3), (35, .iload_n 1, 1), (36, .iload_n 2, 1), (37, .iload_n 3, 1), (38, .invokevirtual 248, 3), (41, .iconst 1, 1), (42, .ireturn, 1)]
def tb_m90 : ai_m := (yX5_lay, cX5_lay, 5, (some .int), false, tb_i90, tb_fl_RX5, tb_fp_RX5, tb_ci_RX5, tb_cl_RX5, tb_ml_RX5, [])
def tb_i91 : List (Nat × Instr × Nat) := [(0, .iload_n 1, 1), (1, .invokestatic 240, 3), (4, .ifCond .eq 23, 3), (7, .iload_n 2, 1), (8, .iconst 0, 1), (9, .iconst 2, 1), (10, .invokestatic 57, 3), (13, .ifCond .eq 14, 3), (16, .iload 4, 2), (18, .iconst 0, 1), (19, .bipush 20, 2), (21, .invokestatic 57, 3), (24, .ifCond .ne 5, 3), (27, .iconst (-1), 1), (28, .ireturn, 1), (29, .aload_n 0, 1), (30, .getfield 16, 3), (33, .aload_n 0, 1), (34, .getfield 10, 3), (37, .invokevirtual 84, 3), (40, .iconst 0, 1), (41, .istore 5, 2), (43, .iconst 0, 1), (44, .istore 6, 2), (46, .iconst 0, 1), (47, .istore 7, 2), (49, .iload 7, 2), (51, .iload 4, 2), (53, .if_icmp .ge 81, 3), (56, .iload 5, 2), (58, .ifCond .ne 76, 3), (61, .aload_n 0, 1), (62, .getfield 53, 3), (65, .iload_n 1, 1), (66, .iload_n 2, 1), (67, .iload_n 3, 1), (68, .iload 7, 2), (70, .iadd, 1), (71, .invokevirtual 251, 3), (74, .istore 5, 2), (76, .iload 5, 2), (78, .ifCond .ne 50, 3), (81, .aload_n 0, 1), (82, .getfield 53, 3), (85, .getfield 254, 3), (88, .iload_n 1, 1), (89, .aaload, 1), (90, .iload_n 3, 1), (91, .iload 7, 2), (93, .iadd, 1), (94, .iaload, 1), (95, .istore 8, 2), (97, .aload_n 0, 1), (98, .getfield 16, 3), (101, .iload 8, 2), (103, .invokevirtual 144, 3), (106, .ifCond .ne 9, 3), (109, .bipush (-20), 2), (111, .iload 7, 2), (113, .isub, 1), (114, .ireturn, 1), (115, .aload_n 0, 1), (116, .getfield 16, 3), (119, .iload 8, 2), (121, .invokevirtual 147, 3), (124, .pop, 1), (125, .iinc 6 1, 3), (128, .iinc 7 1, 3), (131, .goto (-82), 3), (134, .aload_n 0, 1), (135, .getfield 10, 3), (138, .aload_n 0, 1), (139, .getfield 16, 3), (142, .invokevirtual 84, 3), (145, .aload_n 0, 1), (146, .iload 5, 2), (148, .putfield 258, 3), (151, .iload 6, 2), (153, .ireturn, 1)]
def tb_m91 : ai_m := (yX5_read, cX5_read, 9, (some .int), false, tb_i91, tb_fl_RX5, tb_fp_RX5, tb_ci_RX5, tb_cl_RX5, tb_ml_RX5, [(49, [(0, 5, 0, 0, 3, false, false), (0, 6, 0, (-2147483648), 2147483647, false, false), (0, 7, 0, 0, 20, false, false)], [], [], 2, true)])
def tb_i92 : List (Nat × Instr × Nat) := [(0, .aload_n 0, 1), (1, .getfield 258, 3), (4, .ireturn, 1)]
def tb_m92 : ai_m := (yX5_torn, cX5_torn, 1, (some .int), false, tb_i92, tb_fl_RX5, tb_fp_RX5, tb_ci_RX5, tb_cl_RX5, tb_ml_RX5, [])
def tb_i93 : List (Nat × Instr × Nat) := [(0, .iload_n 1, 1), (1, .tableswitch 127 0 5 #[39, 47, 77, 85, 111, 119], 39), (40, .aload_n 0, 1), (41, .getfield 39, 3), (44, .getfield 88, 3), (47, .ireturn, 1), (48, .aload_n 0, 1), (49, .getfield 25, 3), (52, .iconst 0, 1), (53, .baload, 1), (54, .ifCond .eq 7, 3), (57, .iconst 1, 1), (58, .goto 4, 3), (61, .iconst 0, 1), (62, .aload_n 0, 1), (63, .getfield 25, 3), (66, .iconst 1, 1), (67, .baload, 1), (68, .ifCond .eq 7, 3), (71, .iconst 1, 1), (72, .goto 4, 3), (75, .iconst 0, 1), (76, .iadd, 1), (77, .ireturn, 1), (78, .aload_n 0, 1), (79, .getfield 32, 3), (82, .getfield 65, 3), (85, .ireturn, 1), (86, .aload_n 0, 1), (87, .getfield 53, 3), (90, .iconst 0, 1), (91, .invokevirtual 261, 3), (94, .ifCond .eq 8, 3), (97, .bipush (-4), 2), (99, .goto 12, 3), (102, .aload_n 0, 1), (103, .getfield 53, 3), (106, .getfield 264, 3), (109, .iconst 0, 1), (110, .iaload, 1), (111, .ireturn, 1), (112, .aload_n 0, 1), (113, .getfield 10, 3), (116, .invokevirtual 266, 3), (119, .ireturn, 1), (120, .aload_n 0, 1), (121, .getfield 10, 3), (124, .invokevirtual 269, 3), (127, .ireturn, 1), (128, .iconst (-1), 1), (129, .ireturn, 1)]
def tb_m93 : ai_m := (yX5_count, cX5_count, 2, (some .int), false, tb_i93, tb_fl_RX5, tb_fp_RX5, tb_ci_RX5, tb_cl_RX5, tb_ml_RX5, [])
def tb_i94 : List (Nat × Instr × Nat) := [(0, .iload_n 0, 1), (1, .iload_n 1, 1), (2, .if_icmp .lt 12, 3), (5, .iload_n 0, 1), (6, .iload_n 2, 1), (7, .if_icmp .gt 7, 3), (10, .iconst 1, 1), (11, .goto 4, 3), (14, .iconst 0, 1), (15, .ireturn, 1)]
def tb_m94 : ai_m := (yX5_within, cX5_within, 3, (some .boolean), false, tb_i94, tb_fl_RX5, tb_fp_RX5, tb_ci_RX5, tb_cl_RX5, tb_ml_RX5, [])
def tb_i95 : List (Nat × Instr × Nat) := [(0, .iload_n 0, 1), (1, .iload_n 1, 1), (2, .ishr, 1), (3, .iconst 1, 1), (4, .iand, 1), (5, .ifCond .eq 7, 3), (8, .iconst 1, 1), (9, .goto 4, 3), (12, .iconst 0, 1), (13, .ireturn, 1)]
def tb_m95 : ai_m := (yX5_hasBit, cX5_hasBit, 2, (some .boolean), false, tb_i95, tb_fl_RX5, tb_fp_RX5, tb_ci_RX5, tb_cl_RX5, tb_ml_RX5, [])
def tb_i96 : List (Nat × Instr × Nat) := [(0, .iload_n 0, 1), (1, .tableswitch 39 0 2 #[27, 29, 33], 27), (28, .iload_n 1, 1), (29, .ireturn, 1), (30, .iload_n 1, 1), (31, .iconst 2, 1), (32, .idiv, 1), (33, .ireturn, 1), (34, .iload_n 1, 1), (35, .iconst 2, 1), (36, .idiv, 1), (37, .iconst 4, 1), (38, .idiv, 1), (39, .ireturn, 1), (40, .iconst 0, 1), (41, .iload_n 1, 1), (42, .iconst 2, 1), (43, .iload_n 2, 1), (44, .imul, 1), (45, .isub, 1), (46, .invokestatic 230, 3), (49, .ireturn, 1)]
def tb_m96 : ai_m := (yX5_yieldBy, cX5_yieldBy, 3, (some .int), false, tb_i96, tb_fl_RX5, tb_fp_RX5, tb_ci_RX5, tb_cl_RX5, tb_ml_RX5, [])
def tb_i97 : List (Nat × Instr × Nat) := [(0, .iconst 0, 1), (1, .istore_n 3, 1), (2, .iconst 0, 1), (3, .istore 4, 2), (5, .iload 4, 2), (7, .iconst 4, 1), (8, .if_icmp .ge 27, 3), (11, .iload 4, 2), (13, .iload_n 1, 1), (14, .iload_n 2, 1), (15, .invokestatic 224, 3), (18, .iload_n 0, 1), (19, .if_icmp .ne 10, 3), (22, .iload_n 3, 1), (23, .iconst 1, 1), (24, .iload 4, 2), (26, .ishl, 1), (27, .ior, 1), (28, .istore_n 3, 1), (29, .iinc 4 1, 3), (32, .goto (-27), 3), (35, .iload_n 3, 1), (36, .ireturn, 1)]
def tb_m97 : ai_m := (yX5_kindsThatYield, cX5_kindsThatYield, 5, (some .int), false, tb_i97, tb_fl_RX5, tb_fp_RX5, tb_ci_RX5, tb_cl_RX5, tb_ml_RX5, [(5, [(0, 3, 0, (-2147483648), 2147483647, false, false), (0, 4, 0, 0, 4, false, false)], [], [], 1, true)])
def tb_i98 : List (Nat × Instr × Nat) := [(0, .lload_n 0, 1), (1, .lload_n 2, 1), (2, .lcmp, 1), (3, .ifCond .lt 14, 3), (6, .lload_n 0, 1), (7, .lload 4, 2), (9, .lcmp, 1), (10, .ifCond .gt 7, 3), (13, .iconst 1, 1), (14, .goto 4, 3), (17, .iconst 0, 1), (18, .ireturn, 1)]
def tb_m98 : ai_m := (yX6_in, cX6_in, 6, (some .boolean), false, tb_i98, tb_fl_RX6, tb_fp_RX6, tb_ci_RX6, tb_cl_RX6, tb_ml_RX6, [])
def tb_i99 : List (Nat × Instr × Nat) := [(0, .iload_n 1, 1), (1, .i2l, 1), (2, .lconst 0, 1), (3, .ldc2_w 41, 3), (6, .invokestatic 43, 3), (9, .ifCond .ne 5, 3), (12, .iconst (-1), 1), (13, .ireturn, 1), (14, .aload_n 0, 1), (15, .getfield 47, 3), (18, .sipush 160, 3), (21, .if_icmp .ne 6, 3), (24, .bipush (-3), 2), (26, .ireturn, 1), (27, .aload_n 0, 1), (28, .getfield 16, 3), (31, .aload_n 0, 1), (32, .getfield 47, 3), (35, .iload_n 1, 1), (36, .iastore, 1), (37, .aload_n 0, 1), (38, .dup, 1), (39, .getfield 47, 3), (42, .iconst 1, 1), (43, .iadd, 1), (44, .putfield 47, 3), (47, .aload_n 0, 1), (48, .getfield 47, 3), (51, .ireturn, 1)]
def tb_m99 : ai_m := (yX6_feed, cX6_feed, 2, (some .int), false, tb_i99, tb_fl_RX6, tb_fp_RX6, tb_ci_RX6, tb_cl_RX6, tb_ml_RX6, [])
def tb_i100 : List (Nat × Instr × Nat) := [(0, .iload_n 1, 1), (1, .i2l, 1), (2, .lconst 0, 1), (3, .aload_n 0, 1), (4, .getfield 47, 3), (7, .i2l, 1), (8, .invokestatic 43, 3), (11, .ifCond .ne 5, 3), (14, .iconst (-1), 1), (15, .ireturn, 1), (16, .aload_n 0, 1), (17, .getfield 47, 3), (20, .istore_n 2, 1), (21, .aload_n 0, 1), (22, .iload_n 1, 1), (23, .putfield 47, 3), (26, .iload_n 2, 1), (27, .ireturn, 1)]
def tb_m100 : ai_m := (yX6_end, cX6_end, 3, (some .int), false, tb_i100, tb_fl_RX6, tb_fp_RX6, tb_ci_RX6, tb_cl_RX6, tb_ml_RX6, [])
def tb_i101 : List (Nat × Instr × Nat) := [(0, .iload_n 1, 1), (1, .aload_n 0, 1), (2, .getfield 47, 3), (5, .if_icmp .ge 12, 3), (8, .aload_n 0, 1), (9, .getfield 16, 3), (12, .iload_n 1, 1), (13, .iaload, 1), (14, .goto 5, 3), (17, .bipush (-4), 2), (19, .ireturn, 1)]
def tb_m101 : ai_m := (yX6_byteAt, cX6_byteAt, 2, (some .int), false, tb_i101, tb_fl_RX6, tb_fp_RX6, tb_ci_RX6, tb_cl_RX6, tb_ml_RX6, [])
def tb_i102 : List (Nat × Instr × Nat) := [(0, .aload_n 0, 1), (1, .getfield 51, 3), (4, .ifCond .ne 16, 3), (7, .aload_n 0, 1), (8, .iload_n 1, 1), (9, .putfield 51, 3), (12, .aload_n 0, 1), (13, .aload_n 0, 1), (14, .getfield 54, 3), (17, .putfield 57, 3), (20, .return_, 1)]
def tb_m102 : ai_m := (yX6_fails, cX6_fails, 2, none, false, tb_i102, tb_fl_RX6, tb_fp_RX6, tb_ci_RX6, tb_cl_RX6, tb_ml_RX6, [])
def tb_i103 : List (Nat × Instr × Nat) := [(0, .iconst 0, 1), (1, .istore_n 1, 1), (2, .iload_n 1, 1), (3, .bipush 7, 2), (5, .if_icmp .ge 113, 3), (8, .aload_n 0, 1), (9, .getfield 60, 3), (12, .iconst 1, 1), (13, .if_icmp .ne 105, 3), (16, .aload_n 0, 1), (17, .getfield 63, 3), (20, .aload_n 0, 1), (21, .getfield 54, 3), (24, .isub, 1), (25, .aload_n 0, 1), (26, .getfield 19, 3), (29, .iload_n 1, 1), (30, .iconst 1, 1), (31, .iadd, 1), (32, .iaload, 1), (33, .aload_n 0, 1), (34, .getfield 19, 3), (37, .iload_n 1, 1), (38, .iaload, 1), (39, .isub, 1), (40, .if_icmp .ne 7, 3), (43, .iconst 1, 1), (44, .goto 4, 3), (47, .iconst 0, 1), (48, .istore_n 2, 1), (49, .iconst 0, 1), (50, .istore_n 3, 1), (51, .iload_n 2, 1), (52, .ifCond .eq 54, 3), (55, .iload_n 3, 1), (56, .aload_n 0, 1), (57, .getfield 63, 3), (60, .aload_n 0, 1), (61, .getfield 54, 3), (64, .isub, 1), (65, .if_icmp .ge 41, 3), (68, .aload_n 0, 1), (69, .aload_n 0, 1), (70, .getfield 54, 3), (73, .iload_n 3, 1), (74, .iadd, 1), (75, .invokevirtual 66, 3), (78, .aload_n 0, 1), (79, .getfield 22, 3), (82, .aload_n 0, 1), (83, .getfield 19, 3), (86, .iload_n 1, 1), (87, .iaload, 1), (88, .iload_n 3, 1), (89, .iadd, 1), (90, .iaload, 1), (91, .if_icmp .ne 7, 3), (94, .iconst 1, 1), (95, .goto 4, 3), (98, .iconst 0, 1), (99, .istore_n 2, 1), (100, .iinc 3 1, 3), (103, .goto (-52), 3), (106, .iload_n 2, 1), (107, .ifCond .eq 5, 3), (110, .iload_n 1, 1), (111, .ireturn, 1), (112, .iinc 1 1, 3), (115, .goto (-113), 3), (118, .bipush (-4), 2), (120, .ireturn, 1)]
def tb_m103 : ai_m := (yX6_nameHere, cX6_nameHere, 4, (some .int), false, tb_i103, tb_fl_RX6, tb_fp_RX6, tb_ci_RX6, tb_cl_RX6, tb_ml_RX6, [])
def tb_i104 : List (Nat × Instr × Nat) := [(0, .aload_n 0, 1), (1, .getfield 51, 3), (4, .ifCond .le 4, 3), (7, .return_, 1), (8, .aload_n 0, 1), (9, .aload_n 0, 1), (10, .getfield 63, 3), (13, .invokevirtual 66, 3), (16, .bipush 32, 2), (18, .if_icmp .ne 16, 3), (21, .aload_n 0, 1), (22, .dup, 1), (23, .getfield 63, 3), (26, .iconst 1, 1), (27, .iadd, 1), (28, .putfield 63, 3), (31, .goto (-23), 3), (34, .aload_n 0, 1), (35, .aload_n 0, 1), (36, .getfield 63, 3), (39, .putfield 54, 3), (42, .aload_n 0, 1), (43, .aload_n 0, 1), (44, .getfield 63, 3), (47, .invokevirtual 66, 3), (50, .istore_n 1, 1), (51, .aload_n 0, 1), (52, .iconst 0, 1), (53, .putfield 70, 3), (56, .iload_n 1, 1), (57, .bipush (-4), 2), (59, .if_icmp .ne 11, 3), (62, .aload_n 0, 1), (63, .iconst 0, 1), (64, .putfield 60, 3), (67, .goto 202, 3), (70, .iload_n 1, 1), (71, .i2l, 1), (72, .ldc2_w 73, 3), (75, .ldc2_w 75, 3), (78, .invokestatic 43, 3), (81, .ifCond .eq 45, 3), (84, .aload_n 0, 1), (85, .aload_n 0, 1), (86, .getfield 63, 3), (89, .invokevirtual 66, 3), (92, .i2l, 1), (93, .ldc2_w 73, 3), (96, .ldc2_w 75, 3), (99, .invokestatic 43, 3), (102, .ifCond .eq 16, 3), (105, .aload_n 0, 1), (106, .dup, 1), (107, .getfield 63, 3), (110, .iconst 1, 1), (111, .iadd, 1), (112, .putfield 63, 3), (115, .goto (-31), 3), (118, .aload_n 0, 1), (119, .iconst 1, 1), (120, .putfield 60, 3), (123, .goto 146, 3), (126, .iload_n 1, 1), (127, .i2l, 1), (128, .ldc2_w 77, 3), (131, .ldc2_w 79, 3), (134, .invokestatic 43, 3), (137, .ifCond .eq 106, 3), (140, .aload_n 0, 1), (141, .aload_n 0, 1), (142, .getfield 63, 3), (145, .invokevirtual 66, 3), (148, .i2l, 1), (149, .ldc2_w 77, 3), (152, .ldc2_w 79, 3), (155, .invokestatic 43, 3), (158, .ifCond .eq 59, 3), (161, .aload_n 0, 1), (162, .aload_n 0, 1), (163, .getfield 63, 3), (166, .aload_n 0, 1), (167, .getfield 54, 3), (170, .isub, 1), (171, .iconst 2, 1), (172, .if_icmp .ge 25, 3), (175, .bipush 10, 2), (177, .aload_n 0, 1), (178, .getfield 70, 3), (181, .imul, 1), (182, .aload_n 0, 1), (183, .aload_n 0, 1), (184, .getfield 63, 3), (187, .invokevirtual 66, 3), (190, .iadd, 1), (191, .bipush 48, 2), (193, .isub, 1), (194, .goto 7, 3), (197, .aload_n 0, 1), (198, .getfield 70, 3), (201, .putfield 70, 3), (204, .aload_n 0, 1), (205, .dup, 1), (206, .getfield 63, 3), (209, .iconst 1, 1), (210, .iadd, 1), (211, .putfield 63, 3), (214, .goto (-74), 3), (217, .aload_n 0, 1), (218, .iconst 2, 1), (219, .putfield 60, 3), (222, .aload_n 0, 1), (223, .getfield 63, 3), (226, .aload_n 0, 1), (227, .getfield 54, 3), (230, .isub, 1), (231, .iconst 2, 1), (232, .if_icmp .le 37, 3), (235, .aload_n 0, 1), (236, .iconst 1, 1), (237, .invokevirtual 81, 3), (240, .goto 29, 3), (243, .aload_n 0, 1), (244, .iconst 3, 1), (245, .putfield 60, 3), (248, .aload_n 0, 1), (249, .dup, 1), (250, .getfield 63, 3), (253, .iconst 1, 1), (254, .iadd, 1), (255, .putfield 63, 3), (258, .iload_n 1, 1), (259, .bipush 59, 2), (261, .if_icmp .eq 8, 3), (264, .aload_n 0, 1), (265, .iconst 1, 1), (266, .invokevirtual 81, 3), (269, .return_, 1)]
def tb_m104 : ai_m := (yX6_step, cX6_step, 2, none, false, tb_i104, tb_fl_RX6, tb_fp_RX6, tb_ci_RX6, tb_cl_RX6, tb_ml_RX6, [])
def tb_i105 : List (Nat × Instr × Nat) := [(0, .aload_n 0, 1), (1, .getfield 51, 3), (4, .ifCond .ne 16, 3), (7, .aload_n 0, 1), (8, .getfield 60, 3), (11, .iconst 2, 1), (12, .if_icmp .eq 8, 3), (15, .aload_n 0, 1), (16, .iconst 2, 1), (17, .invokevirtual 81, 3), (20, .aload_n 0, 1), (21, .getfield 51, 3), (24, .ifCond .ne 23, 3), (27, .aload_n 0, 1), (28, .getfield 70, 3), (31, .i2l, 1), (32, .iload_n 1, 1), (33, .i2l, 1), (34, .iload_n 2, 1), (35, .i2l, 1), (36, .invokestatic 43, 3), (39, .ifCond .ne 8, 3), (42, .aload_n 0, 1), (43, .iconst 3, 1), (44, .invokevirtual 81, 3), (47, .aload_n 0, 1), (48, .getfield 51, 3), (51, .ifCond .ne 10, 3), (54, .aload_n 0, 1), (55, .getfield 70, 3), (58, .goto 4, 3), (61, .iload_n 1, 1), (62, .istore_n 3, 1), (63, .aload_n 0, 1), (64, .invokevirtual 85, 3), (67, .iload_n 3, 1), (68, .ireturn, 1)]
def tb_m105 : ai_m := (yX6_number, cX6_number, 4, (some .int), false, tb_i105, tb_fl_RX6, tb_fp_RX6, tb_ci_RX6, tb_cl_RX6, tb_ml_RX6, [])
def tb_i106 : List (Nat × Instr × Nat) := [(0, .aload_n 0, 1), (1, .getfield 51, 3), (4, .ifCond .ne 93, 3), (7, .aload_n 0, 1), (8, .getfield 60, 3), (11, .iconst 2, 1), (12, .if_icmp .ne 85, 3), (15, .aload_n 0, 1), (16, .getfield 13, 3), (19, .bipush 26, 2), (21, .iaload, 1), (22, .bipush 8, 2), (24, .if_icmp .ne 11, 3), (27, .aload_n 0, 1), (28, .iconst 5, 1), (29, .invokevirtual 81, 3), (32, .goto (-32), 3), (35, .aload_n 0, 1), (36, .iconst 0, 1), (37, .iconst 4, 1), (38, .invokevirtual 88, 3), (41, .istore_n 1, 1), (42, .aload_n 0, 1), (43, .iload_n 1, 1), (44, .iconst 4, 1), (45, .if_icmp .ge 15, 3), (48, .iload_n 1, 1), (49, .aload_n 0, 1), (50, .getfield 92, 3), (53, .if_icmp .le 7, 3), (56, .iload_n 1, 1), (57, .goto 7, 3), (60, .aload_n 0, 1), (61, .getfield 92, 3), (64, .putfield 92, 3), (67, .aload_n 0, 1), (68, .getfield 13, 3), (71, .bipush 18, 2), (73, .aload_n 0, 1), (74, .getfield 13, 3), (77, .bipush 26, 2), (79, .iaload, 1), (80, .iadd, 1), (81, .iload_n 1, 1), (82, .iastore, 1), (83, .aload_n 0, 1), (84, .getfield 13, 3), (87, .bipush 26, 2), (89, .dup2, 1), (90, .iaload, 1), (91, .iconst 1, 1), (92, .iadd, 1), (93, .iastore, 1), (94, .goto (-94), 3), (97, .return_, 1)]
def tb_m106 : ai_m := (yX6_readPlan, cX6_readPlan, 2, none, false, tb_i106, tb_fl_RX6, tb_fp_RX6, tb_ci_RX6, tb_cl_RX6, tb_ml_RX6, [])
def tb_i107 : List (Nat × Instr × Nat) := [(0, .aload_n 0, 1), (1, .getfield 13, 3), (4, .aload_n 0, 1), (5, .getfield 95, 3), (8, .iload_n 1, 1), (9, .iastore, 1), (10, .aload_n 0, 1), (11, .getfield 13, 3), (14, .iconst 4, 1), (15, .aload_n 0, 1), (16, .getfield 95, 3), (19, .iadd, 1), (20, .aload_n 0, 1), (21, .iconst 1, 1), (22, .bipush 99, 2), (24, .invokevirtual 88, 3), (27, .iastore, 1), (28, .aload_n 0, 1), (29, .getfield 51, 3), (32, .ifCond .ne 39, 3), (35, .aload_n 0, 1), (36, .getfield 60, 3), (39, .iconst 2, 1), (40, .if_icmp .ne 31, 3), (43, .aload_n 0, 1), (44, .getfield 13, 3), (47, .bipush 8, 2), (49, .aload_n 0, 1), (50, .getfield 95, 3), (53, .iadd, 1), (54, .aload_n 0, 1), (55, .iconst 0, 1), (56, .aload_n 0, 1), (57, .getfield 13, 3), (60, .iconst 4, 1), (61, .aload_n 0, 1), (62, .getfield 95, 3), (65, .iadd, 1), (66, .iaload, 1), (67, .invokevirtual 88, 3), (70, .iastore, 1), (71, .aload_n 0, 1), (72, .getfield 51, 3), (75, .ifCond .ne 30, 3), (78, .aload_n 0, 1), (79, .getfield 60, 3), (82, .iconst 2, 1), (83, .if_icmp .ne 22, 3), (86, .aload_n 0, 1), (87, .getfield 13, 3), (90, .bipush 12, 2), (92, .aload_n 0, 1), (93, .getfield 95, 3), (96, .iadd, 1), (97, .aload_n 0, 1), (98, .iconst 0, 1), (99, .bipush 99, 2), (101, .invokevirtual 88, 3), (104, .iastore, 1), (105, .aload_n 0, 1), (106, .dup, 1), (107, .getfield 95, 3), (110, .iconst 1, 1), (111, .iadd, 1), (112, .putfield 95, 3), (115, .return_, 1)]
def tb_m107 : ai_m := (yX6_readTest, cX6_readTest, 2, none, false, tb_i107, tb_fl_RX6, tb_fp_RX6, tb_ci_RX6, tb_cl_RX6, tb_ml_RX6, [])
def tb_i108 : List (Nat × Instr × Nat) := [(0, .aload_n 0, 1), (1, .invokevirtual 98, 3), (4, .istore_n 1, 1), (5, .iload_n 1, 1), (6, .i2l, 1), (7, .lconst 0, 1), (8, .ldc2_w 102, 3), (11, .invokestatic 43, 3), (14, .ifCond .ne 9, 3), (17, .aload_n 0, 1), (18, .iconst 2, 1), (19, .invokevirtual 81, 3), (22, .return_, 1), (23, .iload_n 1, 1), (24, .iconst 3, 1), (25, .if_icmp .gt 16, 3), (28, .aload_n 0, 1), (29, .getfield 95, 3), (32, .iconst 4, 1), (33, .if_icmp .ne 8, 3), (36, .aload_n 0, 1), (37, .iconst 5, 1), (38, .invokevirtual 81, 3), (41, .iload_n 1, 1), (42, .iconst 4, 1), (43, .if_icmp .lt 20, 3), (46, .aload_n 0, 1), (47, .getfield 104, 3), (50, .iload_n 1, 1), (51, .ishr, 1), (52, .iconst 1, 1), (53, .iand, 1), (54, .iconst 1, 1), (55, .if_icmp .ne 8, 3), (58, .aload_n 0, 1), (59, .iconst 4, 1), (60, .invokevirtual 81, 3), (63, .aload_n 0, 1), (64, .dup, 1), (65, .getfield 104, 3), (68, .iconst 1, 1), (69, .iload_n 1, 1), (70, .ishl, 1), (71, .ior, 1), (72, .putfield 104, 3), (75, .aload_n 0, 1), (76, .invokevirtual 85, 3), (79, .aload_n 0, 1), (80, .getfield 51, 3), (83, .ifCond .le 4, 3), (86, .return_, 1), (87, .iload_n 1, 1), (88, .iconst 3, 1), (89, .if_icmp .gt 11, 3), (92, .aload_n 0, 1), (93, .iload_n 1, 1), (94, .invokevirtual 107, 3), (97, .goto 54, 3), (100, .iload_n 1, 1), (101, .iconst 4, 1), (102, .if_icmp .ne 23, 3), (105, .aload_n 0, 1), (106, .getfield 13, 3), (109, .bipush 16, 2), (111, .aload_n 0, 1), (112, .iconst 0, 1), (113, .bipush 20, 2), (115, .invokevirtual 88, 3), (118, .bipush 10, 2), (120, .isub, 1), (121, .iastore, 1), (122, .goto 29, 3), (125, .iload_n 1, 1), (126, .iconst 5, 1), (127, .if_icmp .ne 20, 3), (130, .aload_n 0, 1), (131, .getfield 13, 3), (134, .bipush 17, 2), (136, .aload_n 0, 1), (137, .iconst 0, 1), (138, .bipush 99, 2), (140, .invokevirtual 88, 3), (143, .iastore, 1), (144, .goto 7, 3), (147, .aload_n 0, 1), (148, .invokevirtual 110, 3), (151, .aload_n 0, 1), (152, .getfield 51, 3), (155, .ifCond .ne 16, 3), (158, .aload_n 0, 1), (159, .getfield 60, 3), (162, .iconst 3, 1), (163, .if_icmp .eq 8, 3), (166, .aload_n 0, 1), (167, .iconst 2, 1), (168, .invokevirtual 81, 3), (171, .aload_n 0, 1), (172, .invokevirtual 85, 3), (175, .return_, 1)]
def tb_m108 : ai_m := (yX6_readLine, cX6_readLine, 2, none, false, tb_i108, tb_fl_RX6, tb_fp_RX6, tb_ci_RX6, tb_cl_RX6, tb_ml_RX6, [])
def tb_i109 : List (Nat × Instr × Nat) := [(0, .aload_n 0, 1), (1, .iconst 0, 1), (2, .putfield 51, 3), (5, .aload_n 0, 1), (6, .iconst 0, 1), (7, .putfield 63, 3), (10, .aload_n 0, 1), (11, .iconst 0, 1), (12, .putfield 95, 3), (15, .aload_n 0, 1), (16, .iconst 0, 1), (17, .putfield 104, 3), (20, .aload_n 0, 1), (21, .iconst (-1), 1), (22, .putfield 92, 3), (25, .iconst 0, 1), (26, .istore_n 1, 1), (27, .iconst 0, 1), (28, .istore_n 2, 1), (29, .iload_n 2, 1), (30, .bipush 27, 2), (32, .if_icmp .ge 16, 3), (35, .aload_n 0, 1), (36, .getfield 13, 3), (39, .iload_n 2, 1), (40, .iconst 0, 1), (41, .iastore, 1), (42, .iinc 2 1, 3), (45, .goto (-16), 3), (48, .aload_n 0, 1), (49, .invokevirtual 85, 3), (52, .aload_n 0, 1), (53, .getfield 51, 3), (56, .ifCond .ne 20, 3), (59, .aload_n 0, 1), (60, .getfield 60, 3), (63, .ifCond .eq 13, 3), (66, .aload_n 0, 1), (67, .invokevirtual 113, 3), (70, .iinc 1 1, 3), (73, .goto (-21), 3), (76, .aload_n 0, 1), (77, .getfield 51, 3), (80, .ifCond .ne 20, 3), (83, .aload_n 0, 1), (84, .getfield 92, 3), (87, .aload_n 0, 1), (88, .getfield 95, 3), (91, .if_icmp .lt 9, 3), (94, .aload_n 0, 1), (95, .bipush 6, 2), (97, .invokevirtual 81, 3), (100, .aload_n 0, 1), (101, .iconst 0, 1), (102, .putfield 47, 3), (105, .aload_n 0, 1), (106, .aload_n 0, 1), (107, .getfield 51, 3), (110, .putfield 116, 3), (113, .aload_n 0, 1), (114, .getfield 51, 3), (117, .ifCond .le 11, 3), (120, .bipush (-10), 2), (122, .aload_n 0, 1), (123, .getfield 57, 3), (126, .isub, 1), (127, .ireturn, 1), (128, .iconst 0, 1), (129, .istore_n 2, 1), (130, .iload_n 2, 1), (131, .bipush 27, 2), (133, .if_icmp .ge 21, 3), (136, .aload_n 0, 1), (137, .getfield 7, 3), (140, .iload_n 2, 1), (141, .aload_n 0, 1), (142, .getfield 13, 3), (145, .iload_n 2, 1), (146, .iaload, 1), (147, .iastore, 1), (148, .iinc 2 1, 3), (151, .goto (-21), 3), (154, .aload_n 0, 1), (155, .aload_n 0, 1), (156, .getfield 95, 3), (159, .putfield 119, 3), (162, .aload_n 0, 1), (163, .iconst 0, 1), (164, .putfield 122, 3), (167, .aload_n 0, 1), (168, .getfield 28, 3), (171, .iconst 0, 1), (172, .iconst 0, 1), (173, .bastore, 1), (174, .aload_n 0, 1), (175, .getfield 28, 3), (178, .iconst 1, 1), (179, .iconst 0, 1), (180, .bastore, 1), (181, .iload_n 1, 1), (182, .ireturn, 1)]
def tb_m109 : ai_m := (yX6_text, cX6_text, 3, (some .int), false, tb_i109, tb_fl_RX6, tb_fp_RX6, tb_ci_RX6, tb_cl_RX6, tb_ml_RX6, [])
def tb_i110 : List (Nat × Instr × Nat) := [(0, .aload_n 0, 1), (1, .getfield 116, 3), (4, .ireturn, 1)]
def tb_m110 : ai_m := (yX6_fault, cX6_fault, 1, (some .int), false, tb_i110, tb_fl_RX6, tb_fp_RX6, tb_ci_RX6, tb_cl_RX6, tb_ml_RX6, [])
def tb_i111 : List (Nat × Instr × Nat) := [(0, .iload_n 1, 1), (1, .i2l, 1), (2, .lconst 0, 1), (3, .aload_n 0, 1), (4, .getfield 119, 3), (7, .iconst 1, 1), (8, .isub, 1), (9, .i2l, 1), (10, .invokestatic 43, 3), (13, .ireturn, 1)]
def tb_m111 : ai_m := (yX6_isTest, cX6_isTest, 2, (some .boolean), false, tb_i111, tb_fl_RX6, tb_fp_RX6, tb_ci_RX6, tb_cl_RX6, tb_ml_RX6, [])
def tb_i112 : List (Nat × Instr × Nat) := [(0, .iload_n 0, 1), (1, .tableswitch 39 0 2 #[27, 29, 33], 27), (28, .iload_n 1, 1), (29, .ireturn, 1), (30, .iload_n 1, 1), (31, .iconst 2, 1), (32, .idiv, 1), (33, .ireturn, 1), (34, .iload_n 1, 1), (35, .iconst 2, 1), (36, .idiv, 1), (37, .iconst 4, 1), (38, .idiv, 1), (39, .ireturn, 1), (40, .iload_n 1, 1), (41, .iconst 2, 1), (42, .iload_n 2, 1), (43, .imul, 1), (44, .if_icmp .le 11, 3), (47, .iload_n 1, 1), (48, .iconst 2, 1), (49, .iload_n 2, 1), (50, .imul, 1), (51, .isub, 1), (52, .goto 4, 3), (55, .iconst 0, 1), (56, .ireturn, 1)]
def tb_m112 : ai_m := (yX6_yieldOf, cX6_yieldOf, 3, (some .int), false, tb_i112, tb_fl_RX6, tb_fp_RX6, tb_ci_RX6, tb_cl_RX6, tb_ml_RX6, [])
def tb_i113 : List (Nat × Instr × Nat) := [(0, .aload_n 0, 1), (1, .getfield 7, 3), (4, .iload_n 1, 1), (5, .bipush 16, 2), (7, .iadd, 1), (8, .iaload, 1), (9, .bipush 10, 2), (11, .iadd, 1), (12, .ireturn, 1)]
def tb_m113 : ai_m := (yX6_strengthOn, cX6_strengthOn, 2, (some .int), false, tb_i113, tb_fl_RX6, tb_fp_RX6, tb_ci_RX6, tb_cl_RX6, tb_ml_RX6, [])
def tb_i114 : List (Nat × Instr × Nat) := [(0, .aload_n 0, 1), (1, .getfield 7, 3), (4, .iload_n 1, 1), (5, .iload_n 2, 1), (6, .iadd, 1), (7, .iaload, 1), (8, .aload_n 0, 1), (9, .iload_n 1, 1), (10, .invokevirtual 125, 3), (13, .aload_n 0, 1), (14, .getfield 7, 3), (17, .iload_n 1, 1), (18, .bipush 12, 2), (20, .iadd, 1), (21, .iload_n 2, 1), (22, .iadd, 1), (23, .iaload, 1), (24, .invokestatic 128, 3), (27, .ireturn, 1)]
def tb_m114 : ai_m := (yX6_yieldOn, cX6_yieldOn, 3, (some .int), false, tb_i114, tb_fl_RX6, tb_fp_RX6, tb_ci_RX6, tb_cl_RX6, tb_ml_RX6, [])
def tb_i115 : List (Nat × Instr × Nat) := [(0, .aload_n 0, 1), (1, .getfield 7, 3), (4, .iload_n 1, 1), (5, .bipush 8, 2), (7, .iadd, 1), (8, .iload_n 2, 1), (9, .iadd, 1), (10, .iaload, 1), (11, .aload_n 0, 1), (12, .getfield 7, 3), (15, .iload_n 1, 1), (16, .iconst 4, 1), (17, .iadd, 1), (18, .iload_n 2, 1), (19, .iadd, 1), (20, .iaload, 1), (21, .if_icmp .ne 7, 3), (24, .iconst 1, 1), (25, .goto 4, 3), (28, .iconst 0, 1), (29, .ireturn, 1)]
def tb_m115 : ai_m := (yX6_isWon, cX6_isWon, 3, (some .boolean), false, tb_i115, tb_fl_RX6, tb_fp_RX6, tb_ci_RX6, tb_cl_RX6, tb_ml_RX6, [])
def tb_i116 : List (Nat × Instr × Nat) := [(0, .iconst 0, 1), (1, .istore_n 2, 1), (2, .iconst 0, 1), (3, .istore_n 3, 1), (4, .iload_n 3, 1), (5, .aload_n 0, 1), (6, .getfield 119, 3), (9, .if_icmp .ge 28, 3), (12, .iload_n 2, 1), (13, .aload_n 0, 1), (14, .iload_n 1, 1), (15, .iload_n 3, 1), (16, .invokevirtual 132, 3), (19, .ifCond .eq 9, 3), (22, .iconst 1, 1), (23, .iload_n 3, 1), (24, .ishl, 1), (25, .goto 4, 3), (28, .iconst 0, 1), (29, .ior, 1), (30, .istore_n 2, 1), (31, .iinc 3 1, 3), (34, .goto (-30), 3), (37, .iload_n 2, 1), (38, .ireturn, 1)]
def tb_m116 : ai_m := (yX6_wonOn, cX6_wonOn, 4, (some .int), false, tb_i116, tb_fl_RX6, tb_fp_RX6, tb_ci_RX6, tb_cl_RX6, tb_ml_RX6, [(4, [(0, 2, 0, (-2147483648), 2147483647, false, false), (0, 3, 0, 0, 4, false, false)], [], [], 1, true)])
def tb_i117 : List (Nat × Instr × Nat) := [(0, .iconst 0, 1), (1, .istore_n 2, 1), (2, .iconst 0, 1), (3, .istore_n 3, 1), (4, .iload_n 3, 1), (5, .aload_n 0, 1), (6, .getfield 119, 3), (9, .if_icmp .ge 23, 3), (12, .iload_n 2, 1), (13, .aload_n 0, 1), (14, .getfield 7, 3), (17, .iload_n 1, 1), (18, .bipush 8, 2), (20, .iadd, 1), (21, .iload_n 3, 1), (22, .iadd, 1), (23, .iaload, 1), (24, .iadd, 1), (25, .istore_n 2, 1), (26, .iinc 3 1, 3), (29, .goto (-25), 3), (32, .iload_n 2, 1), (33, .ireturn, 1)]
def tb_m117 : ai_m := (yX6_movedOn, cX6_movedOn, 4, (some .int), false, tb_i117, tb_fl_RX6, tb_fp_RX6, tb_ci_RX6, tb_cl_RX6, tb_ml_RX6, [(4, [(0, 2, 0, (-2147483648), 2147483647, false, false), (0, 3, 0, 0, 4, false, false)], [], [], 1, true)])
def tb_i118 : List (Nat × Instr × Nat) := [(0, .iload_n 1, 1), (1, .tableswitch 78 0 5 #[39, 44, 50, 58, 66, 72], 39), (40, .aload_n 0, 1), (41, .getfield 119, 3), (44, .ireturn, 1), (45, .aload_n 0, 1), (46, .iconst 0, 1), (47, .invokevirtual 125, 3), (50, .ireturn, 1), (51, .aload_n 0, 1), (52, .getfield 7, 3), (55, .bipush 17, 2), (57, .iaload, 1), (58, .ireturn, 1), (59, .aload_n 0, 1), (60, .getfield 7, 3), (63, .bipush 26, 2), (65, .iaload, 1), (66, .ireturn, 1), (67, .aload_n 0, 1), (68, .iconst 0, 1), (69, .invokevirtual 136, 3), (72, .ireturn, 1), (73, .aload_n 0, 1), (74, .iconst 0, 1), (75, .invokevirtual 139, 3), (78, .ireturn, 1), (79, .iconst (-1), 1), (80, .ireturn, 1)]
def tb_m118 : ai_m := (yX6_rule, cX6_rule, 2, (some .int), false, tb_i118, tb_fl_RX6, tb_fp_RX6, tb_ci_RX6, tb_cl_RX6, tb_ml_RX6, [])
def tb_i119 : List (Nat × Instr × Nat) := [(0, .aload_n 0, 1), (1, .iload_n 1, 1), (2, .invokevirtual 142, 3), (5, .ifCond .eq 15, 3), (8, .iload_n 2, 1), (9, .i2l, 1), (10, .lconst 0, 1), (11, .ldc2_w 146, 3), (14, .invokestatic 43, 3), (17, .ifCond .ne 5, 3), (20, .iconst (-1), 1), (21, .ireturn, 1), (22, .iload_n 2, 1), (23, .iconst 4, 1), (24, .if_icmp .ne 12, 3), (27, .aload_n 0, 1), (28, .iconst 0, 1), (29, .iload_n 1, 1), (30, .invokevirtual 148, 3), (33, .goto 13, 3), (36, .aload_n 0, 1), (37, .getfield 7, 3), (40, .iconst 4, 1), (41, .iload_n 2, 1), (42, .imul, 1), (43, .iload_n 1, 1), (44, .iadd, 1), (45, .iaload, 1), (46, .ireturn, 1)]
def tb_m119 : ai_m := (yX6_test, cX6_test, 3, (some .int), false, tb_i119, tb_fl_RX6, tb_fp_RX6, tb_ci_RX6, tb_cl_RX6, tb_ml_RX6, [])
def tb_i120 : List (Nat × Instr × Nat) := [(0, .iload_n 1, 1), (1, .i2l, 1), (2, .lconst 0, 1), (3, .aload_n 0, 1), (4, .getfield 7, 3), (7, .bipush 26, 2), (9, .iaload, 1), (10, .iconst 1, 1), (11, .isub, 1), (12, .i2l, 1), (13, .invokestatic 43, 3), (16, .ifCond .eq 15, 3), (19, .aload_n 0, 1), (20, .getfield 7, 3), (23, .bipush 18, 2), (25, .iload_n 1, 1), (26, .iadd, 1), (27, .iaload, 1), (28, .goto 4, 3), (31, .iconst (-1), 1), (32, .ireturn, 1)]
def tb_m120 : ai_m := (yX6_act, cX6_act, 2, (some .int), false, tb_i120, tb_fl_RX6, tb_fp_RX6, tb_ci_RX6, tb_cl_RX6, tb_ml_RX6, [])
def tb_i121 : List (Nat × Instr × Nat) := [(0, .iload_n 1, 1), (1, .ifCond .ne 5, 3), (4, .iconst (-1), 1), (5, .ireturn, 1), (6, .aload_n 0, 1), (7, .getfield 7, 3), (10, .iload_n 2, 1), (11, .iaload, 1), (12, .iload 4, 2), (14, .iadd, 1), (15, .istore 5, 2), (17, .aload_n 0, 1), (18, .getfield 7, 3), (21, .iload_n 2, 1), (22, .iload_n 3, 1), (23, .iload 4, 2), (25, .isub, 1), (26, .iastore, 1), (27, .iload 5, 2), (29, .ireturn, 1)]
def tb_m121 : ai_m := (yX6_puts, cX6_puts, 6, (some .int), false, tb_i121, tb_fl_RX6, tb_fp_RX6, tb_ci_RX6, tb_cl_RX6, tb_ml_RX6, [])
def tb_i122 : List (Nat × Instr × Nat) := [(0, .iload_n 2, 1), (1, .ifCond .ne 15, 3), (4, .iload_n 3, 1), (5, .i2l, 1), (6, .lconst 0, 1), (7, .ldc2_w 151, 3), (10, .invokestatic 43, 3), (13, .goto 42, 3), (16, .iload_n 2, 1), (17, .iconst 1, 1), (18, .if_icmp .ne 15, 3), (21, .iload_n 3, 1), (22, .i2l, 1), (23, .lconst 1, 1), (24, .ldc2_w 153, 3), (27, .invokestatic 43, 3), (30, .goto 25, 3), (33, .iload_n 2, 1), (34, .iconst 3, 1), (35, .if_icmp .ne 19, 3), (38, .iload_n 3, 1), (39, .i2l, 1), (40, .lconst 0, 1), (41, .ldc2_w 153, 3), (44, .invokestatic 43, 3), (47, .ifCond .eq 7, 3), (50, .iconst 1, 1), (51, .goto 4, 3), (54, .iconst 0, 1), (55, .istore 4, 2), (57, .aload_n 0, 1), (58, .iload_n 1, 1), (59, .invokevirtual 142, 3), (62, .ifCond .eq 8, 3), (65, .iload 4, 2), (67, .ifCond .ne 5, 3), (70, .iconst (-1), 1), (71, .ireturn, 1), (72, .iload_n 2, 1), (73, .iconst 1, 1), (74, .if_icmp .ne 21, 3), (77, .iload_n 3, 1), (78, .aload_n 0, 1), (79, .getfield 7, 3), (82, .bipush 8, 2), (84, .iload_n 1, 1), (85, .iadd, 1), (86, .iaload, 1), (87, .if_icmp .ge 8, 3), (90, .bipush (-2), 2), (92, .goto 15, 3), (95, .aload_n 0, 1), (96, .iconst 1, 1), (97, .iconst 4, 1), (98, .iload_n 2, 1), (99, .imul, 1), (100, .iload_n 1, 1), (101, .iadd, 1), (102, .iload_n 3, 1), (103, .iconst 0, 1), (104, .invokevirtual 155, 3), (107, .ireturn, 1)]
def tb_m122 : ai_m := (yX6_alter, cX6_alter, 5, (some .int), false, tb_i122, tb_fl_RX6, tb_fp_RX6, tb_ci_RX6, tb_cl_RX6, tb_ml_RX6, [])
def tb_i123 : List (Nat × Instr × Nat) := [(0, .aload_n 0, 1), (1, .iload_n 1, 1), (2, .i2l, 1), (3, .lconst 0, 1), (4, .ldc2_w 159, 3), (7, .invokestatic 43, 3), (10, .bipush 16, 2), (12, .iload_n 1, 1), (13, .bipush 10, 2), (15, .invokevirtual 155, 3), (18, .ireturn, 1)]
def tb_m123 : ai_m := (yX6_strong, cX6_strong, 2, (some .int), false, tb_i123, tb_fl_RX6, tb_fp_RX6, tb_ci_RX6, tb_cl_RX6, tb_ml_RX6, [])
def tb_i124 : List (Nat × Instr × Nat) := [(0, .aload_n 0, 1), (1, .iload_n 1, 1), (2, .invokevirtual 142, 3), (5, .ifCond .ne 5, 3), (8, .iconst (-1), 1), (9, .ireturn, 1), (10, .aload_n 0, 1), (11, .getfield 7, 3), (14, .bipush 8, 2), (16, .iload_n 1, 1), (17, .iadd, 1), (18, .iaload, 1), (19, .istore_n 2, 1), (20, .aload_n 0, 1), (21, .getfield 7, 3), (24, .bipush 8, 2), (26, .iload_n 1, 1), (27, .iadd, 1), (28, .iconst 0, 1), (29, .iastore, 1), (30, .aload_n 0, 1), (31, .getfield 7, 3), (34, .bipush 12, 2), (36, .iload_n 1, 1), (37, .iadd, 1), (38, .iconst 0, 1), (39, .iastore, 1), (40, .iload_n 2, 1), (41, .ireturn, 1)]
def tb_m124 : ai_m := (yX6_fill, cX6_fill, 3, (some .int), false, tb_i124, tb_fl_RX6, tb_fp_RX6, tb_ci_RX6, tb_cl_RX6, tb_ml_RX6, [])
def tb_i125 : List (Nat × Instr × Nat) := [(0, .aload_n 0, 1), (1, .iload_n 1, 1), (2, .invokevirtual 142, 3), (5, .ifCond .ne 10, 3), (8, .iload_n 1, 1), (9, .iconst 4, 1), (10, .if_icmp .eq 5, 3), (13, .iconst (-1), 1), (14, .ireturn, 1), (15, .aload_n 0, 1), (16, .getfield 7, 3), (19, .bipush 26, 2), (21, .iaload, 1), (22, .bipush 8, 2), (24, .if_icmp .ne 6, 3), (27, .bipush (-3), 2), (29, .ireturn, 1), (30, .aload_n 0, 1), (31, .getfield 7, 3), (34, .bipush 18, 2), (36, .aload_n 0, 1), (37, .getfield 7, 3), (40, .bipush 26, 2), (42, .iaload, 1), (43, .iadd, 1), (44, .iload_n 1, 1), (45, .iastore, 1), (46, .aload_n 0, 1), (47, .getfield 7, 3), (50, .bipush 26, 2), (52, .dup2, 1), (53, .iaload, 1), (54, .iconst 1, 1), (55, .iadd, 1), (56, .iastore, 1), (57, .aload_n 0, 1), (58, .getfield 7, 3), (61, .bipush 26, 2), (63, .iaload, 1), (64, .ireturn, 1)]
def tb_m125 : ai_m := (yX6_plan, cX6_plan, 2, (some .int), false, tb_i125, tb_fl_RX6, tb_fp_RX6, tb_ci_RX6, tb_cl_RX6, tb_ml_RX6, [])
def tb_i126 : List (Nat × Instr × Nat) := [(0, .aload_n 0, 1), (1, .iload_n 1, 1), (2, .i2l, 1), (3, .lconst 0, 1), (4, .aload_n 0, 1), (5, .getfield 7, 3), (8, .bipush 26, 2), (10, .iaload, 1), (11, .i2l, 1), (12, .invokestatic 43, 3), (15, .bipush 26, 2), (17, .iload_n 1, 1), (18, .iconst 0, 1), (19, .invokevirtual 155, 3), (22, .ireturn, 1)]
def tb_m126 : ai_m := (yX6_cut, cX6_cut, 2, (some .int), false, tb_i126, tb_fl_RX6, tb_fp_RX6, tb_ci_RX6, tb_cl_RX6, tb_ml_RX6, [])
def tb_i127 : List (Nat × Instr × Nat) := [(0, .aload_n 0, 1), (1, .iload_n 1, 1), (2, .iload_n 2, 1), (3, .invokevirtual 132, 3), (6, .ifCond .ne 15, 3), (9, .aload_n 0, 1), (10, .iload_n 1, 1), (11, .invokevirtual 125, 3), (14, .ifCond .le 7, 3), (17, .iconst 1, 1), (18, .goto 4, 3), (21, .iconst 0, 1), (22, .ireturn, 1)]
def tb_m127 : ai_m := (yX6_canPull, cX6_canPull, 3, (some .boolean), false, tb_i127, tb_fl_RX6, tb_fp_RX6, tb_ci_RX6, tb_cl_RX6, tb_ml_RX6, [])
def tb_i128 : List (Nat × Instr × Nat) := [(0, .aload_n 0, 1), (1, .iload_n 1, 1), (2, .iload_n 2, 1), (3, .invokevirtual 148, 3), (6, .istore 4, 2), (8, .aload_n 0, 1), (9, .getfield 7, 3), (12, .iload_n 1, 1), (13, .iconst 4, 1), (14, .iadd, 1), (15, .iload_n 2, 1), (16, .iadd, 1), (17, .iaload, 1), (18, .aload_n 0, 1), (19, .getfield 7, 3), (22, .iload_n 1, 1), (23, .bipush 8, 2), (25, .iadd, 1), (26, .iload_n 2, 1), (27, .iadd, 1), (28, .iaload, 1), (29, .isub, 1), (30, .istore 5, 2), (32, .iload_n 3, 1), (33, .ifCond .eq 7, 3), (36, .iconst 0, 1), (37, .goto 17, 3), (40, .iload 4, 2), (42, .iload 5, 2), (44, .if_icmp .le 8, 3), (47, .iload 5, 2), (49, .goto 5, 3), (52, .iload 4, 2), (54, .istore 6, 2), (56, .iconst 2, 1), (57, .iload 4, 2), (59, .imul, 1), (60, .aload_n 0, 1), (61, .iload_n 1, 1), (62, .invokevirtual 125, 3), (65, .if_icmp .ge 22, 3), (68, .aload_n 0, 1), (69, .getfield 7, 3), (72, .iload_n 1, 1), (73, .bipush 17, 2), (75, .iadd, 1), (76, .iaload, 1), (77, .sipush 999, 3), (80, .if_icmp .ge 7, 3), (83, .iconst 1, 1), (84, .goto 4, 3), (87, .iconst 0, 1), (88, .istore 7, 2), (90, .aload_n 0, 1), (91, .getfield 7, 3), (94, .iload_n 1, 1), (95, .bipush 8, 2), (97, .iadd, 1), (98, .iload_n 2, 1), (99, .iadd, 1), (100, .dup2, 1), (101, .iaload, 1), (102, .iload 6, 2), (104, .iadd, 1), (105, .iastore, 1), (106, .aload_n 0, 1), (107, .getfield 7, 3), (110, .iload_n 1, 1), (111, .bipush 12, 2), (113, .iadd, 1), (114, .iload_n 2, 1), (115, .iadd, 1), (116, .dup2, 1), (117, .iaload, 1), (118, .aload_n 0, 1), (119, .getfield 7, 3), (122, .iload_n 1, 1), (123, .bipush 12, 2), (125, .iadd, 1), (126, .iload_n 2, 1), (127, .iadd, 1), (128, .iaload, 1), (129, .bipush 99, 2), (131, .if_icmp .ge 7, 3), (134, .iconst 1, 1), (135, .goto 4, 3), (138, .iconst 0, 1), (139, .iadd, 1), (140, .iastore, 1), (141, .aload_n 0, 1), (142, .getfield 7, 3), (145, .iload_n 1, 1), (146, .bipush 17, 2), (148, .iadd, 1), (149, .dup2, 1), (150, .iaload, 1), (151, .iload 7, 2), (153, .ifCond .eq 7, 3), (156, .iconst 1, 1), (157, .goto 4, 3), (160, .iconst 0, 1), (161, .iadd, 1), (162, .iastore, 1), (163, .aload_n 0, 1), (164, .getfield 7, 3), (167, .iload_n 1, 1), (168, .bipush 16, 2), (170, .iadd, 1), (171, .dup2, 1), (172, .iaload, 1), (173, .iconst 1, 1), (174, .isub, 1), (175, .iastore, 1), (176, .iload 6, 2), (178, .ireturn, 1)]
def tb_m128 : ai_m := (yX6_pullsOn, cX6_pullsOn, 8, (some .int), false, tb_i128, tb_fl_RX6, tb_fp_RX6, tb_ci_RX6, tb_cl_RX6, tb_ml_RX6, [])
def tb_i129 : List (Nat × Instr × Nat) := [(0, .aload_n 0, 1), (1, .getfield 7, 3), (4, .iload_n 1, 1), (5, .bipush 16, 2), (7, .iadd, 1), (8, .aload_n 0, 1), (9, .iload_n 1, 1), (10, .invokevirtual 125, 3), (13, .bipush 18, 2), (15, .if_icmp .le 8, 3), (18, .bipush 10, 2), (20, .goto 14, 3), (23, .aload_n 0, 1), (24, .getfield 7, 3), (27, .iload_n 1, 1), (28, .bipush 16, 2), (30, .iadd, 1), (31, .iaload, 1), (32, .iconst 2, 1), (33, .iadd, 1), (34, .iastore, 1), (35, .return_, 1)]
def tb_m129 : ai_m := (yX6_restsOn, cX6_restsOn, 2, none, false, tb_i129, tb_fl_RX6, tb_fp_RX6, tb_ci_RX6, tb_cl_RX6, tb_ml_RX6, [])
def tb_i130 : List (Nat × Instr × Nat) := [(0, .iload_n 2, 1), (1, .iconst 4, 1), (2, .if_icmp .ne 10, 3), (5, .aload_n 0, 1), (6, .iload_n 1, 1), (7, .invokevirtual 161, 3), (10, .iconst 1, 1), (11, .ireturn, 1), (12, .aload_n 0, 1), (13, .iload_n 1, 1), (14, .iload_n 2, 1), (15, .invokevirtual 164, 3), (18, .ifCond .ne 5, 3), (21, .iconst 0, 1), (22, .ireturn, 1), (23, .aload_n 0, 1), (24, .iload_n 1, 1), (25, .iload_n 2, 1), (26, .iconst 0, 1), (27, .invokevirtual 167, 3), (30, .pop, 1), (31, .iconst 1, 1), (32, .ireturn, 1)]
def tb_m130 : ai_m := (yX6_actsOn, cX6_actsOn, 3, (some .boolean), false, tb_i130, tb_fl_RX6, tb_fp_RX6, tb_ci_RX6, tb_cl_RX6, tb_ml_RX6, [])
def tb_i131 : List (Nat × Instr × Nat) := [(0, .aload_n 0, 1), (1, .iload_n 1, 1), (2, .invokevirtual 142, 3), (5, .ifCond .ne 5, 3), (8, .iconst (-1), 1), (9, .ireturn, 1), (10, .aload_n 0, 1), (11, .iconst 0, 1), (12, .iload_n 1, 1), (13, .invokevirtual 164, 3), (16, .ifCond .eq 13, 3), (19, .aload_n 0, 1), (20, .iconst 0, 1), (21, .iload_n 1, 1), (22, .iconst 0, 1), (23, .invokevirtual 167, 3), (26, .goto 5, 3), (29, .bipush (-2), 2), (31, .ireturn, 1)]
def tb_m131 : ai_m := (yX6_pulls, cX6_pulls, 2, (some .int), false, tb_i131, tb_fl_RX6, tb_fp_RX6, tb_ci_RX6, tb_cl_RX6, tb_ml_RX6, [])
def tb_i132 : List (Nat × Instr × Nat) := [(0, .aload_n 0, 1), (1, .iload_n 1, 1), (2, .invokevirtual 171, 3), (5, .ireturn, 1)]
def tb_m132 : ai_m := (yX6_pull, cX6_pull, 2, (some .int), false, tb_i132, tb_fl_RX6, tb_fp_RX6, tb_ci_RX6, tb_cl_RX6, tb_ml_RX6, [])
def tb_i133 : List (Nat × Instr × Nat) := [(0, .iload_n 1, 1), (1, .i2l, 1), (2, .lconst 0, 1), (3, .ldc2_w 159, 3), (6, .invokestatic 43, 3), (9, .ifCond .ne 5, 3), (12, .iconst (-1), 1), (13, .ireturn, 1), (14, .iconst 0, 1), (15, .istore_n 2, 1), (16, .iload_n 2, 1), (17, .iload_n 1, 1), (18, .if_icmp .ge 14, 3), (21, .aload_n 0, 1), (22, .iconst 0, 1), (23, .invokevirtual 161, 3), (26, .iinc 2 1, 3), (29, .goto (-13), 3), (32, .aload_n 0, 1), (33, .iconst 0, 1), (34, .invokevirtual 125, 3), (37, .ireturn, 1)]
def tb_m133 : ai_m := (yX6_rest, cX6_rest, 3, (some .int), false, tb_i133, tb_fl_RX6, tb_fp_RX6, tb_ci_RX6, tb_cl_RX6, tb_ml_RX6, [(16, [(0, 2, 0, 0, 20, false, false)], [], [], 0, true)])
def tb_i134 : List (Nat × Instr × Nat) := [(0, .iconst 0, 1), (1, .istore_n 3, 1), (2, .iload_n 3, 1), (3, .bipush 27, 2), (5, .if_icmp .ge 25, 3), (8, .aload_n 0, 1), (9, .getfield 7, 3), (12, .iload_n 2, 1), (13, .iload_n 3, 1), (14, .iadd, 1), (15, .aload_n 0, 1), (16, .getfield 7, 3), (19, .iload_n 1, 1), (20, .iload_n 3, 1), (21, .iadd, 1), (22, .iaload, 1), (23, .iastore, 1), (24, .iinc 3 1, 3), (27, .goto (-25), 3), (30, .return_, 1)]
def tb_m134 : ai_m := (yX6_copies, cX6_copies, 4, none, false, tb_i134, tb_fl_RX6, tb_fp_RX6, tb_ci_RX6, tb_cl_RX6, tb_ml_RX6, [])
def tb_i135 : List (Nat × Instr × Nat) := [(0, .aload_n 0, 1), (1, .iload_n 1, 1), (2, .bipush 108, 2), (4, .invokevirtual 174, 3), (7, .aload_n 0, 1), (8, .bipush (-4), 2), (10, .putfield 178, 3), (13, .iconst 0, 1), (14, .istore_n 2, 1), (15, .iload_n 2, 1), (16, .aload_n 0, 1), (17, .getfield 7, 3), (20, .iload_n 1, 1), (21, .bipush 26, 2), (23, .iadd, 1), (24, .iaload, 1), (25, .if_icmp .ge 52, 3), (28, .aload_n 0, 1), (29, .bipush 108, 2), (31, .aload_n 0, 1), (32, .getfield 7, 3), (35, .iload_n 1, 1), (36, .bipush 18, 2), (38, .iadd, 1), (39, .iload_n 2, 1), (40, .iadd, 1), (41, .iaload, 1), (42, .invokevirtual 181, 3), (45, .istore_n 3, 1), (46, .aload_n 0, 1), (47, .iload_n 3, 1), (48, .ifCond .ne 16, 3), (51, .aload_n 0, 1), (52, .getfield 178, 3), (55, .bipush (-4), 2), (57, .if_icmp .ne 7, 3), (60, .iload_n 2, 1), (61, .goto 7, 3), (64, .aload_n 0, 1), (65, .getfield 178, 3), (68, .putfield 178, 3), (71, .iinc 2 1, 3), (74, .goto (-59), 3), (77, .return_, 1)]
def tb_m135 : ai_m := (yX6_planGoes, cX6_planGoes, 4, none, false, tb_i135, tb_fl_RX6, tb_fp_RX6, tb_ci_RX6, tb_cl_RX6, tb_ml_RX6, [(15, [(0, 2, 0, 0, 8, false, false)], [], [(50, 116, 116), (50, 117, 117), (50, 118, 118), (50, 119, 119), (50, 120, 120), (50, 121, 121), (50, 122, 122), (50, 123, 123), (50, 124, 124), (50, 125, 125), (49, 17, 17)], 0, true)])
def tb_i136 : List (Nat × Instr × Nat) := [(0, .aload_n 0, 1), (1, .getfield 7, 3), (4, .bipush 125, 2), (6, .iaload, 1), (7, .aload_n 0, 1), (8, .getfield 7, 3), (11, .bipush 17, 2), (13, .iaload, 1), (14, .isub, 1), (15, .ireturn, 1)]
def tb_m136 : ai_m := (yX6_laughsMore, cX6_laughsMore, 1, (some .int), false, tb_i136, tb_fl_RX6, tb_fp_RX6, tb_ci_RX6, tb_cl_RX6, tb_ml_RX6, [])
def tb_i137 : List (Nat × Instr × Nat) := [(0, .iload_n 1, 1), (1, .i2l, 1), (2, .lconst 0, 1), (3, .ldc2_w 146, 3), (6, .invokestatic 43, 3), (9, .ifCond .ne 5, 3), (12, .iconst (-1), 1), (13, .ireturn, 1), (14, .aload_n 0, 1), (15, .iconst 0, 1), (16, .invokevirtual 184, 3), (19, .iload_n 1, 1), (20, .tableswitch 58 0 3 #[32, 39, 46, 53], 32), (52, .aload_n 0, 1), (53, .bipush 108, 2), (55, .invokevirtual 136, 3), (58, .ireturn, 1), (59, .aload_n 0, 1), (60, .bipush 108, 2), (62, .invokevirtual 139, 3), (65, .ireturn, 1), (66, .aload_n 0, 1), (67, .bipush 108, 2), (69, .invokevirtual 125, 3), (72, .ireturn, 1), (73, .aload_n 0, 1), (74, .invokevirtual 187, 3), (77, .ireturn, 1), (78, .aload_n 0, 1), (79, .getfield 178, 3), (82, .ireturn, 1)]
def tb_m137 : ai_m := (yX6_runs, cX6_runs, 2, (some .int), false, tb_i137, tb_fl_RX6, tb_fp_RX6, tb_ci_RX6, tb_cl_RX6, tb_ml_RX6, [])
def tb_i138 : List (Nat × Instr × Nat) := [(0, .aload_n 0, 1), (1, .iload_n 1, 1), (2, .invokevirtual 142, 3), (5, .ifCond .ne 5, 3), (8, .iconst (-1), 1), (9, .ireturn, 1), (10, .aload_n 0, 1), (11, .iconst 0, 1), (12, .invokevirtual 184, 3), (15, .aload_n 0, 1), (16, .getfield 7, 3), (19, .bipush 116, 2), (21, .iload_n 1, 1), (22, .iadd, 1), (23, .iaload, 1), (24, .ireturn, 1)]
def tb_m138 : ai_m := (yX6_ahead, cX6_ahead, 2, (some .int), false, tb_i138, tb_fl_RX6, tb_fp_RX6, tb_ci_RX6, tb_cl_RX6, tb_ml_RX6, [])
def tb_i139 : List (Nat × Instr × Nat) := [(0, .iconst 0, 1), (1, .istore_n 2, 1), (2, .aload_n 0, 1), (3, .bipush 108, 2), (5, .iload_n 1, 1), (6, .invokevirtual 164, 3), (9, .ifCond .eq 18, 3), (12, .aload_n 0, 1), (13, .bipush 108, 2), (15, .iload_n 1, 1), (16, .iconst 0, 1), (17, .invokevirtual 167, 3), (20, .pop, 1), (21, .iinc 2 1, 3), (24, .goto (-22), 3), (27, .aload_n 0, 1), (28, .bipush 108, 2), (30, .iload_n 1, 1), (31, .invokevirtual 132, 3), (34, .ifCond .eq 7, 3), (37, .iload_n 2, 1), (38, .goto 5, 3), (41, .bipush (-4), 2), (43, .ireturn, 1)]
def tb_m139 : ai_m := (yX6_aloneBy, cX6_aloneBy, 3, (some .int), false, tb_i139, tb_fl_RX6, tb_fp_RX6, tb_ci_RX6, tb_cl_RX6, tb_ml_RX6, [(12, [(1, 50, 124, (-9), 10, false, false), (0, 2, 0, (-2147483648), 2147483647, false, false)], [], [(50, 108, 123), (50, 125, 134)], 0, false)])
def tb_i140 : List (Nat × Instr × Nat) := [(0, .aload_n 0, 1), (1, .iload_n 1, 1), (2, .invokevirtual 142, 3), (5, .ifCond .ne 5, 3), (8, .iconst (-1), 1), (9, .ireturn, 1), (10, .aload_n 0, 1), (11, .iconst 0, 1), (12, .bipush 108, 2), (14, .invokevirtual 174, 3), (17, .aload_n 0, 1), (18, .iload_n 1, 1), (19, .invokevirtual 190, 3), (22, .ireturn, 1)]
def tb_m140 : ai_m := (yX6_need, cX6_need, 2, (some .int), false, tb_i140, tb_fl_RX6, tb_fp_RX6, tb_ci_RX6, tb_cl_RX6, tb_ml_RX6, [])
def tb_i141 : List (Nat × Instr × Nat) := [(0, .aload_n 0, 1), (1, .iload_n 1, 1), (2, .invokevirtual 142, 3), (5, .ifCond .eq 15, 3), (8, .iload_n 2, 1), (9, .i2l, 1), (10, .lconst 0, 1), (11, .ldc2_w 159, 3), (14, .invokestatic 43, 3), (17, .ifCond .ne 5, 3), (20, .iconst (-1), 1), (21, .ireturn, 1), (22, .iconst 0, 1), (23, .istore_n 3, 1), (24, .iload_n 3, 1), (25, .bipush 20, 2), (27, .if_icmp .gt 44, 3), (30, .aload_n 0, 1), (31, .iconst 0, 1), (32, .bipush 108, 2), (34, .invokevirtual 174, 3), (37, .aload_n 0, 1), (38, .getfield 7, 3), (41, .bipush 124, 2), (43, .iload_n 3, 1), (44, .bipush 10, 2), (46, .isub, 1), (47, .iastore, 1), (48, .aload_n 0, 1), (49, .iload_n 1, 1), (50, .invokevirtual 190, 3), (53, .i2l, 1), (54, .lconst 0, 1), (55, .iload_n 2, 1), (56, .i2l, 1), (57, .invokestatic 43, 3), (60, .ifCond .eq 5, 3), (63, .iload_n 3, 1), (64, .ireturn, 1), (65, .iinc 3 1, 3), (68, .goto (-44), 3), (71, .bipush (-4), 2), (73, .ireturn, 1)]
def tb_m141 : ai_m := (yX6_least, cX6_least, 4, (some .int), false, tb_i141, tb_fl_RX6, tb_fp_RX6, tb_ci_RX6, tb_cl_RX6, tb_ml_RX6, [(24, [(0, 3, 0, 0, 21, false, false)], [], [], 0, true)])
def tb_i142 : List (Nat × Instr × Nat) := [(0, .iconst 0, 1), (1, .istore_n 1, 1), (2, .iconst 0, 1), (3, .istore_n 2, 1), (4, .iload_n 2, 1), (5, .iconst 4, 1), (6, .if_icmp .ge 17, 3), (9, .iload_n 1, 1), (10, .iload_n 0, 1), (11, .iload_n 2, 1), (12, .ishr, 1), (13, .iconst 1, 1), (14, .iand, 1), (15, .iadd, 1), (16, .istore_n 1, 1), (17, .iinc 2 1, 3), (20, .goto (-16), 3), (23, .iload_n 1, 1), (24, .ireturn, 1)]
def tb_m142 : ai_m := (yX6_bitsOf, cX6_bitsOf, 3, (some .int), false, tb_i142, tb_fl_RX6, tb_fp_RX6, tb_ci_RX6, tb_cl_RX6, tb_ml_RX6, [])
def tb_i143 : List (Nat × Instr × Nat) := [(0, .iconst 1, 1), (1, .istore_n 1, 1), (2, .iconst 0, 1), (3, .istore_n 2, 1), (4, .iload_n 2, 1), (5, .iload_n 0, 1), (6, .if_icmp .ge 13, 3), (9, .iload_n 1, 1), (10, .iconst 5, 1), (11, .imul, 1), (12, .istore_n 1, 1), (13, .iinc 2 1, 3), (16, .goto (-12), 3), (19, .iload_n 1, 1), (20, .ireturn, 1)]
def tb_m143 : ai_m := (yX6_powerOf, cX6_powerOf, 3, (some .int), false, tb_i143, tb_fl_RX6, tb_fp_RX6, tb_ci_RX6, tb_cl_RX6, tb_ml_RX6, [])
def tb_i144 : List (Nat × Instr × Nat) := [(0, .iload_n 0, 1), (1, .iload_n 1, 1), (2, .iconst 1, 1), (3, .isub, 1), (4, .iload_n 2, 1), (5, .isub, 1), (6, .invokestatic 193, 3), (9, .idiv, 1), (10, .iconst 5, 1), (11, .irem, 1), (12, .ireturn, 1)]
def tb_m144 : ai_m := (yX6_figureOf, cX6_figureOf, 3, (some .int), false, tb_i144, tb_fl_RX6, tb_fp_RX6, tb_ci_RX6, tb_cl_RX6, tb_ml_RX6, [])
def tb_i145 : List (Nat × Instr × Nat) := [(0, .aload_n 0, 1), (1, .iconst 0, 1), (2, .bipush 108, 2), (4, .invokevirtual 174, 3), (7, .iconst 0, 1), (8, .istore_n 3, 1), (9, .iload_n 3, 1), (10, .iload_n 2, 1), (11, .if_icmp .ge 43, 3), (14, .iload_n 1, 1), (15, .iload_n 2, 1), (16, .iload_n 3, 1), (17, .invokestatic 196, 3), (20, .istore 4, 2), (22, .iload 4, 2), (24, .iconst 4, 1), (25, .if_icmp .eq 14, 3), (28, .aload_n 0, 1), (29, .iload 4, 2), (31, .invokevirtual 142, 3), (34, .ifCond .ne 5, 3), (37, .iconst 0, 1), (38, .ireturn, 1), (39, .aload_n 0, 1), (40, .bipush 108, 2), (42, .iload 4, 2), (44, .invokevirtual 181, 3), (47, .pop, 1), (48, .iinc 3 1, 3), (51, .goto (-42), 3), (54, .iconst 1, 1), (55, .ireturn, 1)]
def tb_m145 : ai_m := (yX6_rowGoes, cX6_rowGoes, 5, (some .boolean), false, tb_i145, tb_fl_RX6, tb_fp_RX6, tb_ci_RX6, tb_cl_RX6, tb_ml_RX6, [(9, [(0, 3, 0, 0, 4, false, false)], [], [(50, 124, 124), (50, 116, 116), (50, 117, 117), (50, 118, 118), (50, 119, 119), (50, 120, 120), (50, 121, 121), (50, 122, 122), (50, 123, 123), (50, 125, 125)], 0, true)])
def tb_i146 : List (Nat × Instr × Nat) := [(0, .iload_n 1, 1), (1, .i2l, 1), (2, .lconst 0, 1), (3, .ldc2_w 146, 3), (6, .invokestatic 43, 3), (9, .ifCond .eq 27, 3), (12, .iload_n 2, 1), (13, .i2l, 1), (14, .lconst 0, 1), (15, .lconst 1, 1), (16, .invokestatic 43, 3), (19, .ifCond .ne 19, 3), (22, .iload_n 2, 1), (23, .i2l, 1), (24, .ldc2_w 199, 3), (27, .ldc2_w 201, 3), (30, .invokestatic 43, 3), (33, .ifCond .ne 5, 3), (36, .iconst (-1), 1), (37, .ireturn, 1), (38, .iconst (-1), 1), (39, .istore_n 3, 1), (40, .iconst (-1), 1), (41, .istore 4, 2), (43, .iconst 0, 1), (44, .istore 5, 2), (46, .iconst 0, 1), (47, .istore 6, 2), (49, .iload 6, 2), (51, .iload_n 1, 1), (52, .invokestatic 193, 3), (55, .if_icmp .ge 104, 3), (58, .aload_n 0, 1), (59, .iload 6, 2), (61, .iload_n 1, 1), (62, .invokevirtual 203, 3), (65, .ifCond .eq 88, 3), (68, .aload_n 0, 1), (69, .bipush 108, 2), (71, .invokevirtual 136, 3), (74, .invokestatic 206, 3), (77, .istore 7, 2), (79, .aload_n 0, 1), (80, .bipush 108, 2), (82, .invokevirtual 139, 3), (85, .istore 8, 2), (87, .iload 7, 2), (89, .iload_n 3, 1), (90, .if_icmp .gt 16, 3), (93, .iload 7, 2), (95, .iload_n 3, 1), (96, .if_icmp .ne 14, 3), (99, .iload 8, 2), (101, .iload 4, 2), (103, .if_icmp .le 7, 3), (106, .iconst 1, 1), (107, .goto 4, 3), (110, .iconst 0, 1), (111, .istore 9, 2), (113, .iload 9, 2), (115, .ifCond .eq 8, 3), (118, .iload 6, 2), (120, .goto 5, 3), (123, .iload 5, 2), (125, .istore 5, 2), (127, .iload 9, 2), (129, .ifCond .eq 8, 3), (132, .iload 7, 2), (134, .goto 4, 3), (137, .iload_n 3, 1), (138, .istore_n 3, 1), (139, .iload 9, 2), (141, .ifCond .eq 8, 3), (144, .iload 8, 2), (146, .goto 5, 3), (149, .iload 4, 2), (151, .istore 4, 2), (153, .iinc 6 1, 3), (156, .goto (-107), 3), (159, .iload_n 2, 1), (160, .ifCond .ne 7, 3), (163, .iload_n 3, 1), (164, .goto 36, 3), (167, .iload_n 2, 1), (168, .iconst 1, 1), (169, .if_icmp .ne 8, 3), (172, .iload 4, 2), (174, .goto 26, 3), (177, .iload_n 2, 1), (178, .bipush 10, 2), (180, .isub, 1), (181, .iload_n 1, 1), (182, .if_icmp .ge 16, 3), (185, .iload 5, 2), (187, .iload_n 1, 1), (188, .iload_n 2, 1), (189, .bipush 10, 2), (191, .isub, 1), (192, .invokestatic 196, 3), (195, .goto 5, 3), (198, .bipush (-4), 2), (200, .ireturn, 1)]
def tb_m146 : ai_m := (yX6_best, cX6_best, 10, (some .int), false, tb_i146, tb_fl_RX6, tb_fp_RX6, tb_ci_RX6, tb_cl_RX6, tb_ml_RX6, [(49, [(0, 3, 0, (-1), 4, false, false), (0, 4, 0, (-2147483648), 2147483647, false, false), (0, 5, 0, 0, 624, false, false), (0, 6, 0, 0, 625, false, false)], [], [], 3, true)])
def tb_i147 : List (Nat × Instr × Nat) := [(0, .aload_n 0, 1), (1, .iload_n 1, 1), (2, .invokevirtual 142, 3), (5, .ifCond .eq 15, 3), (8, .iload_n 2, 1), (9, .i2l, 1), (10, .lconst 0, 1), (11, .ldc2_w 159, 3), (14, .invokestatic 43, 3), (17, .ifCond .ne 5, 3), (20, .iconst (-1), 1), (21, .ireturn, 1), (22, .iconst 0, 1), (23, .istore_n 3, 1), (24, .iload_n 3, 1), (25, .iconst 4, 1), (26, .if_icmp .ge 43, 3), (29, .aload_n 0, 1), (30, .iconst 0, 1), (31, .bipush 108, 2), (33, .invokevirtual 174, 3), (36, .aload_n 0, 1), (37, .getfield 7, 3), (40, .bipush 108, 2), (42, .iload_n 1, 1), (43, .iadd, 1), (44, .iload_n 3, 1), (45, .iastore, 1), (46, .aload_n 0, 1), (47, .iload_n 1, 1), (48, .invokevirtual 190, 3), (51, .i2l, 1), (52, .lconst 0, 1), (53, .iload_n 2, 1), (54, .i2l, 1), (55, .invokestatic 43, 3), (58, .ifCond .ne 5, 3), (61, .iload_n 3, 1), (62, .ireturn, 1), (63, .iinc 3 1, 3), (66, .goto (-42), 3), (69, .bipush (-4), 2), (71, .ireturn, 1)]
def tb_m147 : ai_m := (yX6_hide, cX6_hide, 4, (some .int), false, tb_i147, tb_fl_RX6, tb_fp_RX6, tb_ci_RX6, tb_cl_RX6, tb_ml_RX6, [(24, [(0, 3, 0, 0, 4, false, false)], [], [], 0, true)])
def tb_i148 : List (Nat × Instr × Nat) := [(0, .iload_n 1, 1), (1, .i2l, 1), (2, .lconst 0, 1), (3, .lconst 1, 1), (4, .invokestatic 43, 3), (7, .ifCond .ne 5, 3), (10, .iconst (-1), 1), (11, .ireturn, 1), (12, .aload_n 0, 1), (13, .iconst 0, 1), (14, .invokevirtual 184, 3), (17, .aload_n 0, 1), (18, .invokevirtual 187, 3), (21, .istore_n 2, 1), (22, .bipush (-4), 2), (24, .istore_n 3, 1), (25, .iconst 0, 1), (26, .istore 4, 2), (28, .iload 4, 2), (30, .aload_n 0, 1), (31, .getfield 7, 3), (34, .bipush 26, 2), (36, .iaload, 1), (37, .if_icmp .ge 128, 3), (40, .iload 4, 2), (42, .iconst 1, 1), (43, .iadd, 1), (44, .istore 5, 2), (46, .iload 5, 2), (48, .aload_n 0, 1), (49, .getfield 7, 3), (52, .bipush 26, 2), (54, .iaload, 1), (55, .if_icmp .ge 104, 3), (58, .aload_n 0, 1), (59, .iconst 0, 1), (60, .sipush 135, 3), (63, .invokevirtual 174, 3), (66, .aload_n 0, 1), (67, .getfield 7, 3), (70, .sipush 153, 3), (73, .iload 4, 2), (75, .iadd, 1), (76, .aload_n 0, 1), (77, .getfield 7, 3), (80, .bipush 18, 2), (82, .iload 5, 2), (84, .iadd, 1), (85, .iaload, 1), (86, .iastore, 1), (87, .aload_n 0, 1), (88, .getfield 7, 3), (91, .sipush 153, 3), (94, .iload 5, 2), (96, .iadd, 1), (97, .aload_n 0, 1), (98, .getfield 7, 3), (101, .bipush 18, 2), (103, .iload 4, 2), (105, .iadd, 1), (106, .iaload, 1), (107, .iastore, 1), (108, .aload_n 0, 1), (109, .sipush 135, 3), (112, .invokevirtual 184, 3), (115, .aload_n 0, 1), (116, .invokevirtual 187, 3), (119, .iload_n 2, 1), (120, .if_icmp .ge 14, 3), (123, .bipush 10, 2), (125, .iload 4, 2), (127, .imul, 1), (128, .iload 5, 2), (130, .iadd, 1), (131, .goto 4, 3), (134, .iload_n 3, 1), (135, .istore_n 3, 1), (136, .aload_n 0, 1), (137, .invokevirtual 187, 3), (140, .iload_n 2, 1), (141, .if_icmp .ge 10, 3), (144, .aload_n 0, 1), (145, .invokevirtual 187, 3), (148, .goto 4, 3), (151, .iload_n 2, 1), (152, .istore_n 2, 1), (153, .iinc 5 1, 3), (156, .goto (-110), 3), (159, .iinc 4 1, 3), (162, .goto (-134), 3), (165, .iload_n 3, 1), (166, .bipush (-4), 2), (168, .if_icmp .eq 7, 3), (171, .iload_n 1, 1), (172, .ifCond .ne 7, 3), (175, .iload_n 3, 1), (176, .goto 4, 3), (179, .iload_n 2, 1), (180, .ireturn, 1)]
def tb_m148 : ai_m := (yX6_swap, cX6_swap, 6, (some .int), false, tb_i148, tb_fl_RX6, tb_fp_RX6, tb_ci_RX6, tb_cl_RX6, tb_ml_RX6, [(28, [(0, 2, 0, (-2147483648), 2147483647, false, false), (0, 3, 0, (-4), 77, false, false), (0, 4, 0, 0, 8, false, false)], [], [(50, 125, 125)], 2, true), (46, [(0, 2, 0, (-2147483648), 2147483647, false, false), (0, 3, 0, (-4), 77, false, false), (0, 5, 0, 1, 8, false, false)], [], [], 2, true)])
def tb_i149 : List (Nat × Instr × Nat) := [(0, .iload_n 1, 1), (1, .i2l, 1), (2, .lconst 0, 1), (3, .lconst 1, 1), (4, .invokestatic 43, 3), (7, .ifCond .ne 5, 3), (10, .iconst (-1), 1), (11, .ireturn, 1), (12, .aload_n 0, 1), (13, .iconst 0, 1), (14, .invokevirtual 184, 3), (17, .aload_n 0, 1), (18, .bipush 108, 2), (20, .invokevirtual 139, 3), (23, .istore_n 2, 1), (24, .bipush (-4), 2), (26, .istore_n 3, 1), (27, .iconst 0, 1), (28, .istore 4, 2), (30, .iload 4, 2), (32, .aload_n 0, 1), (33, .getfield 119, 3), (36, .if_icmp .ge 70, 3), (39, .aload_n 0, 1), (40, .iconst 0, 1), (41, .sipush 135, 3), (44, .invokevirtual 174, 3), (47, .aload_n 0, 1), (48, .getfield 7, 3), (51, .sipush 135, 3), (54, .iload 4, 2), (56, .iadd, 1), (57, .iconst 0, 1), (58, .iastore, 1), (59, .aload_n 0, 1), (60, .sipush 135, 3), (63, .invokevirtual 184, 3), (66, .aload_n 0, 1), (67, .bipush 108, 2), (69, .invokevirtual 139, 3), (72, .istore 5, 2), (74, .iload 5, 2), (76, .iload_n 2, 1), (77, .if_icmp .le 8, 3), (80, .iload 4, 2), (82, .goto 4, 3), (85, .iload_n 3, 1), (86, .istore_n 3, 1), (87, .iload 5, 2), (89, .iload_n 2, 1), (90, .if_icmp .le 8, 3), (93, .iload 5, 2), (95, .goto 4, 3), (98, .iload_n 2, 1), (99, .istore_n 2, 1), (100, .iinc 4 1, 3), (103, .goto (-73), 3), (106, .iload_n 3, 1), (107, .bipush (-4), 2), (109, .if_icmp .eq 7, 3), (112, .iload_n 1, 1), (113, .ifCond .ne 7, 3), (116, .iload_n 3, 1), (117, .goto 4, 3), (120, .iload_n 2, 1), (121, .ireturn, 1)]
def tb_m149 : ai_m := (yX6_unmask, cX6_unmask, 6, (some .int), false, tb_i149, tb_fl_RX6, tb_fp_RX6, tb_ci_RX6, tb_cl_RX6, tb_ml_RX6, [(30, [(0, 2, 0, (-2147483648), 2147483647, false, false), (0, 3, 0, (-4), 3, false, false), (0, 4, 0, 0, 4, false, false)], [], [], 2, true)])
def tb_i150 : List (Nat × Instr × Nat) := [(0, .lload_n 0, 1), (1, .lstore 5, 2), (3, .lload_n 2, 1), (4, .lstore 7, 2), (6, .lload 7, 2), (8, .lconst 0, 1), (9, .lcmp, 1), (10, .ifCond .eq 21, 3), (13, .lload 5, 2), (15, .lload 7, 2), (17, .lrem, 1), (18, .lstore 9, 2), (20, .lload 7, 2), (22, .lstore 5, 2), (24, .lload 9, 2), (26, .lstore 7, 2), (28, .goto (-22), 3), (31, .iload 4, 2), (33, .ifCond .ne 7, 3), (36, .lload_n 0, 1), (37, .goto 4, 3), (40, .lload_n 2, 1), (41, .lload 5, 2), (43, .ldiv, 1), (44, .lreturn, 1)]
def tb_m150 : ai_m := (yX6_lowest, cX6_lowest, 11, (some .long), false, tb_i150, tb_fl_RX6, tb_fp_RX6, tb_ci_RX6, tb_cl_RX6, tb_ml_RX6, [])
def tb_i151 : List (Nat × Instr × Nat) := [(0, .lconst 0, 1), (1, .lstore 6, 2), (3, .lconst 1, 1), (4, .lstore 8, 2), (6, .iconst 0, 1), (7, .istore 10, 2), (9, .iload 10, 2), (11, .iload_n 3, 1), (12, .if_icmp .ge 17, 3), (15, .lload 8, 2), (17, .ldc2_w 199, 3), (20, .lmul, 1), (21, .lstore 8, 2), (23, .iinc 10 1, 3), (26, .goto (-17), 3), (29, .iconst 0, 1), (30, .istore 10, 2), (32, .iload 10, 2), (34, .iconst 1, 1), (35, .iload_n 3, 1), (36, .ishl, 1), (37, .if_icmp .ge 133, 3), (40, .lconst 1, 1), (41, .lstore 11, 2), (43, .aload_n 0, 1), (44, .iconst 0, 1), (45, .bipush 108, 2), (47, .invokevirtual 174, 3), (50, .iconst 0, 1), (51, .istore 13, 2), (53, .iload 13, 2), (55, .iload_n 3, 1), (56, .if_icmp .ge 67, 3), (59, .iload 10, 2), (61, .iload 13, 2), (63, .ishr, 1), (64, .iconst 1, 1), (65, .iand, 1), (66, .iconst 1, 1), (67, .if_icmp .ne 7, 3), (70, .iconst 1, 1), (71, .goto 4, 3), (74, .iconst 0, 1), (75, .istore 14, 2), (77, .lload 11, 2), (79, .iload 14, 2), (81, .ifCond .eq 8, 3), (84, .iload_n 1, 1), (85, .i2l, 1), (86, .goto 8, 3), (89, .bipush 10, 2), (91, .iload_n 1, 1), (92, .isub, 1), (93, .i2l, 1), (94, .lmul, 1), (95, .lstore 11, 2), (97, .aload_n 0, 1), (98, .bipush 108, 2), (100, .iload_n 2, 1), (101, .invokevirtual 164, 3), (104, .ifCond .eq 13, 3), (107, .aload_n 0, 1), (108, .bipush 108, 2), (110, .iload_n 2, 1), (111, .iload 14, 2), (113, .invokevirtual 167, 3), (116, .pop, 1), (117, .iinc 13 1, 3), (120, .goto (-67), 3), (123, .lload 6, 2), (125, .lload 11, 2), (127, .iload 4, 2), (129, .ifCond .eq 15, 3), (132, .aload_n 0, 1), (133, .getfield 7, 3), (136, .bipush 116, 2), (138, .iload_n 2, 1), (139, .iadd, 1), (140, .iaload, 1), (141, .goto 18, 3), (144, .aload_n 0, 1), (145, .bipush 108, 2), (147, .iload_n 2, 1), (148, .invokevirtual 132, 3), (151, .ifCond .eq 7, 3), (154, .iconst 1, 1), (155, .goto 4, 3), (158, .iconst 0, 1), (159, .i2l, 1), (160, .lmul, 1), (161, .ladd, 1), (162, .lstore 6, 2), (164, .iinc 10 1, 3), (167, .goto (-135), 3), (170, .lload 6, 2), (172, .lload 8, 2), (174, .iload 5, 2), (176, .invokestatic 209, 3), (179, .lreturn, 1)]
def tb_m151 : ai_m := (yX6_bySlips, cX6_bySlips, 15, (some .long), false, tb_i151, tb_fl_RX6, tb_fp_RX6, tb_ci_RX6, tb_cl_RX6, tb_ml_RX6, [(32, [(0, 6, 0, (-9223372036854775808), 9223372036854775807, false, false), (0, 10, 0, 0, 2147483647, false, false)], [], [], 1, true), (53, [(0, 11, 0, (-9223372036854775808), 9223372036854775807, false, false), (0, 13, 0, 0, 8, false, false)], [], [(50, 116, 116), (50, 117, 117), (50, 118, 118), (50, 119, 119), (50, 120, 120), (50, 121, 121), (50, 122, 122), (50, 123, 123), (50, 124, 124), (50, 125, 125)], 1, true)])
def tb_i152 : List (Nat × Instr × Nat) := [(0, .iload_n 1, 1), (1, .i2l, 1), (2, .lconst 0, 1), (3, .ldc2_w 199, 3), (6, .invokestatic 43, 3), (9, .ifCond .eq 38, 3), (12, .aload_n 0, 1), (13, .iload_n 2, 1), (14, .invokevirtual 142, 3), (17, .ifCond .eq 30, 3), (20, .iload_n 3, 1), (21, .i2l, 1), (22, .lconst 0, 1), (23, .ldc2_w 213, 3), (26, .invokestatic 43, 3), (29, .ifCond .eq 18, 3), (32, .iload 4, 2), (34, .i2l, 1), (35, .lconst 0, 1), (36, .lconst 1, 1), (37, .invokestatic 43, 3), (40, .ifCond .eq 7, 3), (43, .iconst 1, 1), (44, .goto 4, 3), (47, .iconst 0, 1), (48, .ireturn, 1)]
def tb_m152 : ai_m := (yX6_isAsked, cX6_isAsked, 5, (some .boolean), false, tb_i152, tb_fl_RX6, tb_fp_RX6, tb_ci_RX6, tb_cl_RX6, tb_ml_RX6, [])
def tb_i153 : List (Nat × Instr × Nat) := [(0, .aload_n 0, 1), (1, .iload_n 1, 1), (2, .iload_n 2, 1), (3, .iload_n 3, 1), (4, .iload 4, 2), (6, .invokevirtual 215, 3), (9, .ifCond .eq 16, 3), (12, .aload_n 0, 1), (13, .iload_n 1, 1), (14, .iload_n 2, 1), (15, .iload_n 3, 1), (16, .iconst 0, 1), (17, .iload 4, 2), (19, .invokevirtual 219, 3), (22, .goto 6, 3), (25, .ldc2_w 223, 3), (28, .lreturn, 1)]
def tb_m153 : ai_m := (yX6_luck, cX6_luck, 5, (some .long), false, tb_i153, tb_fl_RX6, tb_fp_RX6, tb_ci_RX6, tb_cl_RX6, tb_ml_RX6, [])
def tb_i154 : List (Nat × Instr × Nat) := [(0, .aload_n 0, 1), (1, .iload_n 1, 1), (2, .iload_n 2, 1), (3, .iload_n 3, 1), (4, .iload 4, 2), (6, .invokevirtual 215, 3), (9, .ifCond .eq 16, 3), (12, .aload_n 0, 1), (13, .iload_n 1, 1), (14, .iload_n 2, 1), (15, .iload_n 3, 1), (16, .iconst 1, 1), (17, .iload 4, 2), (19, .invokevirtual 219, 3), (22, .goto 6, 3), (25, .ldc2_w 223, 3), (28, .lreturn, 1)]
def tb_m154 : ai_m := (yX6_mean, cX6_mean, 5, (some .long), false, tb_i154, tb_fl_RX6, tb_fp_RX6, tb_ci_RX6, tb_cl_RX6, tb_ml_RX6, [])
def tb_i155 : List (Nat × Instr × Nat) := [(0, .aload_n 0, 1), (1, .iload_n 1, 1), (2, .invokevirtual 142, 3), (5, .ifCond .eq 40, 3), (8, .iload_n 2, 1), (9, .i2l, 1), (10, .lconst 1, 1), (11, .ldc2_w 159, 3), (14, .invokestatic 43, 3), (17, .ifCond .eq 28, 3), (20, .iload_n 3, 1), (21, .i2l, 1), (22, .lconst 0, 1), (23, .ldc2_w 159, 3), (26, .invokestatic 43, 3), (29, .ifCond .eq 16, 3), (32, .iload 4, 2), (34, .i2l, 1), (35, .lconst 0, 1), (36, .ldc2_w 159, 3), (39, .invokestatic 43, 3), (42, .ifCond .ne 5, 3), (45, .iconst (-1), 1), (46, .ireturn, 1), (47, .aload_n 0, 1), (48, .getfield 122, 3), (51, .bipush 6, 2), (53, .if_icmp .ne 6, 3), (56, .bipush (-3), 2), (58, .ireturn, 1), (59, .aload_n 0, 1), (60, .getfield 25, 3), (63, .iconst 4, 1), (64, .aload_n 0, 1), (65, .getfield 122, 3), (68, .imul, 1), (69, .iload_n 1, 1), (70, .iastore, 1), (71, .aload_n 0, 1), (72, .getfield 25, 3), (75, .iconst 4, 1), (76, .aload_n 0, 1), (77, .getfield 122, 3), (80, .imul, 1), (81, .iconst 1, 1), (82, .iadd, 1), (83, .iload_n 2, 1), (84, .iastore, 1), (85, .aload_n 0, 1), (86, .getfield 25, 3), (89, .iconst 4, 1), (90, .aload_n 0, 1), (91, .getfield 122, 3), (94, .imul, 1), (95, .iconst 2, 1), (96, .iadd, 1), (97, .iload_n 3, 1), (98, .iastore, 1), (99, .aload_n 0, 1), (100, .getfield 25, 3), (103, .iconst 4, 1), (104, .aload_n 0, 1), (105, .getfield 122, 3), (108, .imul, 1), (109, .iconst 3, 1), (110, .iadd, 1), (111, .iload 4, 2), (113, .iastore, 1), (114, .aload_n 0, 1), (115, .dup, 1), (116, .getfield 122, 3), (119, .iconst 1, 1), (120, .iadd, 1), (121, .putfield 122, 3), (124, .aload_n 0, 1), (125, .getfield 122, 3), (128, .ireturn, 1)]
def tb_m155 : ai_m := (yX6_see, cX6_see, 5, (some .int), false, tb_i155, tb_fl_RX6, tb_fp_RX6, tb_ci_RX6, tb_cl_RX6, tb_ml_RX6, [])
def tb_i156 : List (Nat × Instr × Nat) := [(0, .iload_n 1, 1), (1, .i2l, 1), (2, .lconst 0, 1), (3, .aload_n 0, 1), (4, .getfield 122, 3), (7, .i2l, 1), (8, .invokestatic 43, 3), (11, .ifCond .ne 5, 3), (14, .iconst (-1), 1), (15, .ireturn, 1), (16, .aload_n 0, 1), (17, .getfield 122, 3), (20, .istore_n 2, 1), (21, .aload_n 0, 1), (22, .iload_n 1, 1), (23, .putfield 122, 3), (26, .iload_n 2, 1), (27, .ireturn, 1)]
def tb_m156 : ai_m := (yX6_forget, cX6_forget, 3, (some .int), false, tb_i156, tb_fl_RX6, tb_fp_RX6, tb_ci_RX6, tb_cl_RX6, tb_ml_RX6, [])
def tb_i157 : List (Nat × Instr × Nat) := [(0, .iconst 0, 1), (1, .istore_n 2, 1), (2, .iconst 0, 1), (3, .istore_n 3, 1), (4, .iload_n 3, 1), (5, .iconst 4, 1), (6, .if_icmp .ge 110, 3), (9, .iconst 1, 1), (10, .istore 4, 2), (12, .iconst 0, 1), (13, .istore 5, 2), (15, .iload 5, 2), (17, .aload_n 0, 1), (18, .getfield 122, 3), (21, .if_icmp .ge 74, 3), (24, .iload 4, 2), (26, .ifCond .eq 60, 3), (29, .aload_n 0, 1), (30, .getfield 25, 3), (33, .iconst 4, 1), (34, .iload 5, 2), (36, .imul, 1), (37, .iaload, 1), (38, .iload_n 1, 1), (39, .if_icmp .ne 43, 3), (42, .iload_n 3, 1), (43, .aload_n 0, 1), (44, .getfield 25, 3), (47, .iconst 4, 1), (48, .iload 5, 2), (50, .imul, 1), (51, .iconst 1, 1), (52, .iadd, 1), (53, .iaload, 1), (54, .aload_n 0, 1), (55, .getfield 25, 3), (58, .iconst 4, 1), (59, .iload 5, 2), (61, .imul, 1), (62, .iconst 2, 1), (63, .iadd, 1), (64, .iaload, 1), (65, .invokestatic 128, 3), (68, .aload_n 0, 1), (69, .getfield 25, 3), (72, .iconst 4, 1), (73, .iload 5, 2), (75, .imul, 1), (76, .iconst 3, 1), (77, .iadd, 1), (78, .iaload, 1), (79, .if_icmp .ne 7, 3), (82, .iconst 1, 1), (83, .goto 4, 3), (86, .iconst 0, 1), (87, .istore 4, 2), (89, .iinc 5 1, 3), (92, .goto (-77), 3), (95, .iload_n 2, 1), (96, .iload 4, 2), (98, .ifCond .eq 9, 3), (101, .iconst 1, 1), (102, .iload_n 3, 1), (103, .ishl, 1), (104, .goto 4, 3), (107, .iconst 0, 1), (108, .ior, 1), (109, .istore_n 2, 1), (110, .iinc 3 1, 3), (113, .goto (-109), 3), (116, .iload_n 2, 1), (117, .ireturn, 1)]
def tb_m157 : ai_m := (yX6_kindsOf, cX6_kindsOf, 6, (some .int), false, tb_i157, tb_fl_RX6, tb_fp_RX6, tb_ci_RX6, tb_cl_RX6, tb_ml_RX6, [(4, [(0, 2, 0, (-2147483648), 2147483647, false, false), (0, 3, 0, 0, 4, false, false)], [], [], 1, true), (15, [(0, 4, 0, 0, 1, false, false), (0, 5, 0, 0, 6, false, false)], [], [], 1, true)])
def tb_i158 : List (Nat × Instr × Nat) := [(0, .aload_n 0, 1), (1, .iload_n 1, 1), (2, .invokevirtual 142, 3), (5, .ifCond .eq 11, 3), (8, .aload_n 0, 1), (9, .iload_n 1, 1), (10, .invokevirtual 225, 3), (13, .goto 4, 3), (16, .iconst (-1), 1), (17, .ireturn, 1)]
def tb_m158 : ai_m := (yX6_kinds, cX6_kinds, 2, (some .int), false, tb_i158, tb_fl_RX6, tb_fp_RX6, tb_ci_RX6, tb_cl_RX6, tb_ml_RX6, [])
def tb_i159 : List (Nat × Instr × Nat) := [(0, .aload_n 0, 1), (1, .iload_n 1, 1), (2, .invokevirtual 142, 3), (5, .ifCond .eq 13, 3), (8, .iload_n 2, 1), (9, .i2l, 1), (10, .lconst 0, 1), (11, .lconst 1, 1), (12, .invokestatic 43, 3), (15, .ifCond .ne 5, 3), (18, .iconst (-1), 1), (19, .ireturn, 1), (20, .aload_n 0, 1), (21, .iload_n 1, 1), (22, .invokevirtual 225, 3), (25, .istore_n 3, 1), (26, .aload_n 0, 1), (27, .getfield 7, 3), (30, .bipush 12, 2), (32, .iload_n 1, 1), (33, .iadd, 1), (34, .iaload, 1), (35, .istore 4, 2), (37, .iload_n 3, 1), (38, .invokestatic 206, 3), (41, .istore 5, 2), (43, .bipush (-4), 2), (45, .istore 6, 2), (47, .iconst 1, 1), (48, .istore 7, 2), (50, .iload 7, 2), (52, .bipush 20, 2), (54, .if_icmp .gt 144, 3), (57, .iconst 0, 1), (58, .istore 8, 2), (60, .iconst 0, 1), (61, .istore 9, 2), (63, .iload 9, 2), (65, .iconst 4, 1), (66, .if_icmp .ge 94, 3), (69, .iconst 0, 1), (70, .istore 10, 2), (72, .iconst 0, 1), (73, .istore 11, 2), (75, .iload 11, 2), (77, .iconst 4, 1), (78, .if_icmp .ge 60, 3), (81, .iload_n 3, 1), (82, .iload 9, 2), (84, .ishr, 1), (85, .iconst 1, 1), (86, .iand, 1), (87, .iconst 1, 1), (88, .if_icmp .ne 50, 3), (91, .iload 10, 2), (93, .iload_n 3, 1), (94, .iload 11, 2), (96, .ishr, 1), (97, .iconst 1, 1), (98, .iand, 1), (99, .iconst 1, 1), (100, .if_icmp .ne 28, 3), (103, .iload 9, 2), (105, .iload 7, 2), (107, .iload 4, 2), (109, .invokestatic 128, 3), (112, .iload 11, 2), (114, .iload 7, 2), (116, .iload 4, 2), (118, .invokestatic 128, 3), (121, .if_icmp .ne 7, 3), (124, .iconst 1, 1), (125, .goto 4, 3), (128, .iconst 0, 1), (129, .iadd, 1), (130, .istore 10, 2), (132, .iinc 11 1, 3), (135, .goto (-60), 3), (138, .iload 10, 2), (140, .iload 8, 2), (142, .if_icmp .le 8, 3), (145, .iload 10, 2), (147, .goto 5, 3), (150, .iload 8, 2), (152, .istore 8, 2), (154, .iinc 9 1, 3), (157, .goto (-94), 3), (160, .iload 8, 2), (162, .iload 5, 2), (164, .if_icmp .ge 8, 3), (167, .iload 7, 2), (169, .goto 5, 3), (172, .iload 6, 2), (174, .istore 6, 2), (176, .iload 8, 2), (178, .iload 5, 2), (180, .if_icmp .ge 8, 3), (183, .iload 8, 2), (185, .goto 5, 3), (188, .iload 5, 2), (190, .istore 5, 2), (192, .iinc 7 1, 3), (195, .goto (-145), 3), (198, .iload 6, 2), (200, .bipush (-4), 2), (202, .if_icmp .eq 7, 3), (205, .iload_n 2, 1), (206, .ifCond .ne 8, 3), (209, .iload 6, 2), (211, .goto 5, 3), (214, .iload 5, 2), (216, .ireturn, 1)]
def tb_m159 : ai_m := (yX6_ask, cX6_ask, 12, (some .int), false, tb_i159, tb_fl_RX6, tb_fp_RX6, tb_ci_RX6, tb_cl_RX6, tb_ml_RX6, [(50, [(0, 5, 0, 0, 4, false, false), (0, 6, 0, (-4), 20, false, false), (0, 7, 0, 1, 21, false, false)], [], [], 2, true), (63, [(0, 8, 0, 0, 2147483647, false, false), (0, 9, 0, 0, 4, false, false)], [], [], 1, true), (75, [(0, 10, 0, (-2147483648), 2147483647, false, false), (0, 11, 0, 0, 4, false, false)], [], [], 1, true)])
def tb_i160 : List (Nat × Instr × Nat) := [(0, .aload_n 0, 1), (1, .iload_n 1, 1), (2, .invokevirtual 142, 3), (5, .ifCond .eq 40, 3), (8, .iload_n 2, 1), (9, .i2l, 1), (10, .lconst 0, 1), (11, .ldc2_w 159, 3), (14, .invokestatic 43, 3), (17, .ifCond .eq 28, 3), (20, .iload_n 3, 1), (21, .i2l, 1), (22, .lconst 0, 1), (23, .ldc2_w 159, 3), (26, .invokestatic 43, 3), (29, .ifCond .eq 16, 3), (32, .iload 4, 2), (34, .i2l, 1), (35, .lconst 0, 1), (36, .ldc2_w 228, 3), (39, .invokestatic 43, 3), (42, .ifCond .ne 5, 3), (45, .iconst (-1), 1), (46, .ireturn, 1), (47, .aload_n 0, 1), (48, .iload_n 1, 1), (49, .invokevirtual 225, 3), (52, .istore 5, 2), (54, .iconst 0, 1), (55, .istore 6, 2), (57, .bipush (-4), 2), (59, .istore 7, 2), (61, .bipush (-4), 2), (63, .istore 8, 2), (65, .iconst 1, 1), (66, .istore 9, 2), (68, .iload 9, 2), (70, .bipush 20, 2), (72, .if_icmp .gt 110, 3), (75, .iconst 0, 1), (76, .istore 10, 2), (78, .iconst 0, 1), (79, .istore 11, 2), (81, .iload 11, 2), (83, .iconst 4, 1), (84, .if_icmp .ge 44, 3), (87, .iload 10, 2), (89, .ifCond .ne 26, 3), (92, .iload 5, 2), (94, .iload 11, 2), (96, .ishr, 1), (97, .iconst 1, 1), (98, .iand, 1), (99, .iconst 1, 1), (100, .if_icmp .ne 19, 3), (103, .iload 11, 2), (105, .iload 9, 2), (107, .iload_n 2, 1), (108, .invokestatic 128, 3), (111, .iload_n 3, 1), (112, .if_icmp .ne 7, 3), (115, .iconst 1, 1), (116, .goto 4, 3), (119, .iconst 0, 1), (120, .istore 10, 2), (122, .iinc 11 1, 3), (125, .goto (-44), 3), (128, .iload 10, 2), (130, .ifCond .eq 13, 3), (133, .iload 6, 2), (135, .ifCond .ne 8, 3), (138, .iload 9, 2), (140, .goto 5, 3), (143, .iload 7, 2), (145, .istore 7, 2), (147, .iload 10, 2), (149, .ifCond .eq 8, 3), (152, .iload 9, 2), (154, .goto 5, 3), (157, .iload 8, 2), (159, .istore 8, 2), (161, .iload 6, 2), (163, .iload 10, 2), (165, .ifCond .eq 7, 3), (168, .iconst 1, 1), (169, .goto 4, 3), (172, .iconst 0, 1), (173, .iadd, 1), (174, .istore 6, 2), (176, .iinc 9 1, 3), (179, .goto (-111), 3), (182, .iload 4, 2), (184, .ifCond .ne 8, 3), (187, .iload 6, 2), (189, .goto 16, 3), (192, .iload 4, 2), (194, .iconst 1, 1), (195, .if_icmp .ne 8, 3), (198, .iload 7, 2), (200, .goto 5, 3), (203, .iload 8, 2), (205, .ireturn, 1)]
def tb_m160 : ai_m := (yX6_arms, cX6_arms, 12, (some .int), false, tb_i160, tb_fl_RX6, tb_fp_RX6, tb_ci_RX6, tb_cl_RX6, tb_ml_RX6, [(68, [(0, 6, 0, (-2147483648), 2147483647, false, false), (0, 7, 0, (-4), 20, false, false), (0, 8, 0, (-4), 20, false, false), (0, 9, 0, 1, 21, false, false)], [], [], 3, true), (81, [(0, 10, 0, 0, 1, false, false), (0, 11, 0, 0, 4, false, false)], [], [], 1, true)])
def tb_i161 : List (Nat × Instr × Nat) := [(0, .iload_n 2, 1), (1, .i2l, 1), (2, .lconst 1, 1), (3, .ldc2_w 230, 3), (6, .invokestatic 43, 3), (9, .ifCond .eq 13, 3), (12, .iload_n 3, 1), (13, .i2l, 1), (14, .lconst 0, 1), (15, .lconst 1, 1), (16, .invokestatic 43, 3), (19, .ifCond .ne 5, 3), (22, .iconst (-1), 1), (23, .ireturn, 1), (24, .aload_n 0, 1), (25, .getfield 119, 3), (28, .ifCond .ne 6, 3), (31, .bipush (-2), 2), (33, .ireturn, 1), (34, .aload_n 0, 1), (35, .iconst 0, 1), (36, .bipush 108, 2), (38, .invokevirtual 174, 3), (41, .iload_n 1, 1), (42, .istore 4, 2), (44, .iconst 0, 1), (45, .istore 5, 2), (47, .iload 5, 2), (49, .iload_n 2, 1), (50, .if_icmp .ge 49, 3), (53, .iload 4, 2), (55, .ldc 232, 2), (57, .imul, 1), (58, .sipush 12345, 3), (61, .iadd, 1), (62, .istore 4, 2), (64, .aload_n 0, 1), (65, .bipush 108, 2), (67, .iload 4, 2), (69, .bipush 16, 2), (71, .ishr, 1), (72, .sipush 32767, 3), (75, .iand, 1), (76, .aload_n 0, 1), (77, .getfield 119, 3), (80, .irem, 1), (81, .invokevirtual 181, 3), (84, .ifCond .ne 9, 3), (87, .aload_n 0, 1), (88, .bipush 108, 2), (90, .invokevirtual 161, 3), (93, .iinc 5 1, 3), (96, .goto (-49), 3), (99, .iload_n 3, 1), (100, .ifCond .ne 12, 3), (103, .aload_n 0, 1), (104, .bipush 108, 2), (106, .invokevirtual 136, 3), (109, .goto 7, 3), (112, .aload_n 0, 1), (113, .invokevirtual 187, 3), (116, .ireturn, 1)]
def tb_m161 : ai_m := (yX6_drift, cX6_drift, 6, (some .int), false, tb_i161, tb_fl_RX6, tb_fp_RX6, tb_ci_RX6, tb_cl_RX6, tb_ml_RX6, [(47, [(0, 4, 0, (-2147483648), 2147483647, false, false), (0, 5, 0, 0, 60, false, false)], [], [(50, 116, 116), (50, 117, 117), (50, 118, 118), (50, 119, 119), (50, 120, 120), (50, 121, 121), (50, 122, 122), (50, 123, 123), (50, 124, 124), (50, 125, 125)], 1, true)])
def tb_i162 : List (Nat × Instr × Nat) := [(0, .iload_n 1, 1), (1, .i2l, 1), (2, .lconst 0, 1), (3, .lconst 1, 1), (4, .invokestatic 43, 3), (7, .ifCond .ne 5, 3), (10, .iconst (-1), 1), (11, .ireturn, 1), (12, .aload_n 0, 1), (13, .iconst 0, 1), (14, .bipush 27, 2), (16, .iload_n 1, 1), (17, .iconst 1, 1), (18, .iadd, 1), (19, .imul, 1), (20, .invokevirtual 174, 3), (23, .aload_n 0, 1), (24, .getfield 28, 3), (27, .iload_n 1, 1), (28, .baload, 1), (29, .ifCond .eq 7, 3), (32, .iconst 1, 1), (33, .goto 4, 3), (36, .iconst 0, 1), (37, .istore_n 2, 1), (38, .aload_n 0, 1), (39, .getfield 28, 3), (42, .iload_n 1, 1), (43, .iconst 1, 1), (44, .bastore, 1), (45, .iload_n 2, 1), (46, .ireturn, 1)]
def tb_m162 : ai_m := (yX6_keep, cX6_keep, 3, (some .int), false, tb_i162, tb_fl_RX6, tb_fp_RX6, tb_ci_RX6, tb_cl_RX6, tb_ml_RX6, [])
def tb_i163 : List (Nat × Instr × Nat) := [(0, .iload_n 1, 1), (1, .i2l, 1), (2, .lconst 0, 1), (3, .lconst 1, 1), (4, .invokestatic 43, 3), (7, .ifCond .ne 5, 3), (10, .iconst (-1), 1), (11, .ireturn, 1), (12, .aload_n 0, 1), (13, .getfield 28, 3), (16, .iload_n 1, 1), (17, .baload, 1), (18, .ifCond .ne 6, 3), (21, .bipush (-2), 2), (23, .ireturn, 1), (24, .aload_n 0, 1), (25, .bipush 27, 2), (27, .iload_n 1, 1), (28, .iconst 1, 1), (29, .iadd, 1), (30, .imul, 1), (31, .iconst 0, 1), (32, .invokevirtual 174, 3), (35, .aload_n 0, 1), (36, .getfield 7, 3), (39, .bipush 17, 2), (41, .iaload, 1), (42, .ireturn, 1)]
def tb_m163 : ai_m := (yX6_back, cX6_back, 2, (some .int), false, tb_i163, tb_fl_RX6, tb_fp_RX6, tb_ci_RX6, tb_cl_RX6, tb_ml_RX6, [])
def tb_i164 : List (Nat × Instr × Nat) := [(0, .iload_n 1, 1), (1, .i2l, 1), (2, .lconst 0, 1), (3, .ldc2_w 151, 3), (6, .invokestatic 43, 3), (9, .ifCond .eq 21, 3), (12, .iload_n 2, 1), (13, .i2l, 1), (14, .lconst 0, 1), (15, .ldc2_w 228, 3), (18, .invokestatic 43, 3), (21, .ifCond .eq 9, 3), (24, .iload_n 3, 1), (25, .bipush 40, 2), (27, .if_icmp .le 5, 3), (30, .iconst (-1), 1), (31, .ireturn, 1), (32, .iload_n 3, 1), (33, .ifCond .ge 6, 3), (36, .bipush (-14), 2), (38, .ireturn, 1), (39, .aload_n 0, 1), (40, .getfield 32, 3), (43, .iload_n 1, 1), (44, .iload_n 2, 1), (45, .iastore, 1), (46, .aload_n 0, 1), (47, .getfield 35, 3), (50, .iload_n 1, 1), (51, .iload_n 3, 1), (52, .iastore, 1), (53, .iconst 0, 1), (54, .istore 4, 2), (56, .iload 4, 2), (58, .bipush 40, 2), (60, .if_icmp .ge 22, 3), (63, .aload_n 0, 1), (64, .getfield 38, 3), (67, .bipush 40, 2), (69, .iload_n 1, 1), (70, .imul, 1), (71, .iload 4, 2), (73, .iadd, 1), (74, .iconst 0, 1), (75, .iastore, 1), (76, .iinc 4 1, 3), (79, .goto (-23), 3), (82, .iconst 1, 1), (83, .ireturn, 1)]
def tb_m164 : ai_m := (yX6_sheet, cX6_sheet, 5, (some .int), false, tb_i164, tb_fl_RX6, tb_fp_RX6, tb_ci_RX6, tb_cl_RX6, tb_ml_RX6, [(56, [(0, 4, 0, 0, 40, false, false)], [], [], 0, true)])
def tb_i165 : List (Nat × Instr × Nat) := [(0, .iload_n 1, 1), (1, .i2l, 1), (2, .lconst 0, 1), (3, .ldc2_w 151, 3), (6, .invokestatic 43, 3), (9, .ifCond .ne 5, 3), (12, .iconst (-1), 1), (13, .ireturn, 1), (14, .aload_n 0, 1), (15, .getfield 32, 3), (18, .iload_n 1, 1), (19, .iaload, 1), (20, .bipush (-4), 2), (22, .if_icmp .ne 6, 3), (25, .bipush (-11), 2), (27, .ireturn, 1), (28, .iload_n 2, 1), (29, .i2l, 1), (30, .lconst 0, 1), (31, .aload_n 0, 1), (32, .getfield 35, 3), (35, .iload_n 1, 1), (36, .iaload, 1), (37, .iconst 1, 1), (38, .isub, 1), (39, .i2l, 1), (40, .invokestatic 43, 3), (43, .ifCond .ne 6, 3), (46, .bipush (-12), 2), (48, .ireturn, 1), (49, .aload_n 0, 1), (50, .getfield 38, 3), (53, .bipush 40, 2), (55, .iload_n 1, 1), (56, .imul, 1), (57, .iload_n 2, 1), (58, .iadd, 1), (59, .aload_n 0, 1), (60, .getfield 32, 3), (63, .iload_n 1, 1), (64, .iaload, 1), (65, .ifCond .ne 13, 3), (68, .iload_n 3, 1), (69, .bipush 24, 2), (71, .ishl, 1), (72, .bipush 24, 2), (74, .ishr, 1), (75, .goto 24, 3), (78, .aload_n 0, 1), (79, .getfield 32, 3), (82, .iload_n 1, 1), (83, .iaload, 1), (84, .iconst 1, 1), (85, .if_icmp .ne 13, 3), (88, .iload_n 3, 1), (89, .bipush 16, 2), (91, .ishl, 1), (92, .bipush 16, 2), (94, .ishr, 1), (95, .goto 4, 3), (98, .iload_n 3, 1), (99, .iastore, 1), (100, .iconst 1, 1), (101, .ireturn, 1)]
def tb_m165 : ai_m := (yX6_lay, cX6_lay, 4, (some .int), false, tb_i165, tb_fl_RX6, tb_fp_RX6, tb_ci_RX6, tb_cl_RX6, tb_ml_RX6, [])
def tb_i166 : List (Nat × Instr × Nat) := [(0, .iload_n 1, 1), (1, .i2l, 1), (2, .lconst 0, 1), (3, .ldc2_w 151, 3), (6, .invokestatic 43, 3), (9, .ifCond .eq 28, 3), (12, .iload_n 2, 1), (13, .i2l, 1), (14, .lconst 0, 1), (15, .ldc2_w 228, 3), (18, .invokestatic 43, 3), (21, .ifCond .eq 16, 3), (24, .iload 4, 2), (26, .i2l, 1), (27, .lconst 0, 1), (28, .ldc2_w 159, 3), (31, .invokestatic 43, 3), (34, .ifCond .ne 5, 3), (37, .iconst (-1), 1), (38, .ireturn, 1), (39, .aload_n 0, 1), (40, .iconst 0, 1), (41, .bipush 81, 2), (43, .invokevirtual 174, 3), (46, .iconst 0, 1), (47, .istore 5, 2), (49, .iconst 0, 1), (50, .istore 6, 2), (52, .iconst 0, 1), (53, .istore 7, 2), (55, .iload 7, 2), (57, .iload 4, 2), (59, .if_icmp .ge 114, 3), (62, .iload 5, 2), (64, .ifCond .ne 109, 3), (67, .aload_n 0, 1), (68, .getfield 32, 3), (71, .iload_n 1, 1), (72, .iaload, 1), (73, .bipush (-4), 2), (75, .if_icmp .ne 7, 3), (78, .iconst 1, 1), (79, .goto 44, 3), (82, .aload_n 0, 1), (83, .getfield 32, 3), (86, .iload_n 1, 1), (87, .iaload, 1), (88, .iload_n 2, 1), (89, .if_icmp .eq 7, 3), (92, .iconst 3, 1), (93, .goto 30, 3), (96, .iload_n 3, 1), (97, .i2l, 1), (98, .iload 7, 2), (100, .i2l, 1), (101, .ladd, 1), (102, .lconst 0, 1), (103, .aload_n 0, 1), (104, .getfield 35, 3), (107, .iload_n 1, 1), (108, .iaload, 1), (109, .iconst 1, 1), (110, .isub, 1), (111, .i2l, 1), (112, .invokestatic 43, 3), (115, .ifCond .ne 7, 3), (118, .iconst 2, 1), (119, .goto 4, 3), (122, .iconst 0, 1), (123, .istore 5, 2), (125, .iload 5, 2), (127, .ifCond .ne 40, 3), (130, .aload_n 0, 1), (131, .aload_n 0, 1), (132, .getfield 38, 3), (135, .bipush 40, 2), (137, .iload_n 1, 1), (138, .imul, 1), (139, .iload_n 3, 1), (140, .iadd, 1), (141, .iload 7, 2), (143, .iadd, 1), (144, .iaload, 1), (145, .invokevirtual 171, 3), (148, .ifCond .ge 16, 3), (151, .aload_n 0, 1), (152, .bipush 81, 2), (154, .iconst 0, 1), (155, .invokevirtual 174, 3), (158, .bipush (-20), 2), (160, .iload 6, 2), (162, .isub, 1), (163, .ireturn, 1), (164, .iinc 6 1, 3), (167, .iinc 7 1, 3), (170, .goto (-115), 3), (173, .aload_n 0, 1), (174, .iload 5, 2), (176, .putfield 233, 3), (179, .iload 6, 2), (181, .ireturn, 1)]
def tb_m166 : ai_m := (yX6_read, cX6_read, 8, (some .int), false, tb_i166, tb_fl_RX6, tb_fp_RX6, tb_ci_RX6, tb_cl_RX6, tb_ml_RX6, [(55, [(0, 5, 0, 0, 3, false, false), (0, 6, 0, (-2147483648), 2147483647, false, false), (0, 7, 0, 0, 20, false, false)], [], [(50, 8, 8), (50, 9, 9), (50, 10, 10), (50, 11, 11), (50, 12, 12), (50, 13, 13), (50, 14, 14), (50, 15, 15), (50, 16, 16), (50, 17, 17)], 2, true)])
def tb_i167 : List (Nat × Instr × Nat) := [(0, .aload_n 0, 1), (1, .getfield 233, 3), (4, .ireturn, 1)]
def tb_m167 : ai_m := (yX6_torn, cX6_torn, 1, (some .int), false, tb_i167, tb_fl_RX6, tb_fp_RX6, tb_ci_RX6, tb_cl_RX6, tb_ml_RX6, [])
def tb_i168 : List (Nat × Instr × Nat) := [(0, .iconst 0, 1), (1, .istore_n 2, 1), (2, .iconst 0, 1), (3, .istore_n 3, 1), (4, .iconst 0, 1), (5, .istore 4, 2), (7, .iload 4, 2), (9, .aload_n 0, 1), (10, .getfield 119, 3), (13, .if_icmp .ge 34, 3), (16, .iload_n 2, 1), (17, .aload_n 0, 1), (18, .getfield 7, 3), (21, .iconst 4, 1), (22, .iload 4, 2), (24, .iadd, 1), (25, .iaload, 1), (26, .iadd, 1), (27, .istore_n 2, 1), (28, .iload_n 3, 1), (29, .aload_n 0, 1), (30, .getfield 7, 3), (33, .bipush 12, 2), (35, .iload 4, 2), (37, .iadd, 1), (38, .iaload, 1), (39, .iadd, 1), (40, .istore_n 3, 1), (41, .iinc 4 1, 3), (44, .goto (-37), 3), (47, .iload_n 1, 1), (48, .tableswitch 107 0 5 #[40, 45, 75, 80, 103, 105], 40), (88, .aload_n 0, 1), (89, .getfield 122, 3), (92, .ireturn, 1), (93, .aload_n 0, 1), (94, .getfield 28, 3), (97, .iconst 0, 1), (98, .baload, 1), (99, .ifCond .eq 7, 3), (102, .iconst 1, 1), (103, .goto 4, 3), (106, .iconst 0, 1), (107, .aload_n 0, 1), (108, .getfield 28, 3), (111, .iconst 1, 1), (112, .baload, 1), (113, .ifCond .eq 7, 3), (116, .iconst 1, 1), (117, .goto 4, 3), (120, .iconst 0, 1), (121, .iadd, 1), (122, .ireturn, 1), (123, .aload_n 0, 1), (124, .getfield 47, 3), (127, .ireturn, 1), (128, .aload_n 0, 1), (129, .getfield 32, 3), (132, .iconst 0, 1), (133, .iaload, 1), (134, .bipush (-4), 2), (136, .if_icmp .ne 8, 3), (139, .bipush (-4), 2), (141, .goto 9, 3), (144, .aload_n 0, 1), (145, .getfield 35, 3), (148, .iconst 0, 1), (149, .iaload, 1), (150, .ireturn, 1), (151, .iload_n 2, 1), (152, .ireturn, 1), (153, .iload_n 3, 1), (154, .ireturn, 1), (155, .iconst (-1), 1), (156, .ireturn, 1)]
def tb_m168 : ai_m := (yX6_count, cX6_count, 5, (some .int), false, tb_i168, tb_fl_RX6, tb_fp_RX6, tb_ci_RX6, tb_cl_RX6, tb_ml_RX6, [])
def tb_i169 : List (Nat × Instr × Nat) := [(0, .new 7, 3), (3, .dup, 1), (4, .invokespecial 9, 3), (7, .astore_n 1, 1), (8, .new 10, 3), (11, .dup, 1), (12, .invokespecial 12, 3), (15, .astore_n 2, 1), (16, .iconst 0, 1), (17, .istore_n 3, 1), (18, .iload_n 3, 1), (19, .aload_n 0, 1), (20, .arraylength, 1), (21, .iconst 5, 1), (22, .isub, 1), (23, .if_icmp .gt 1280, 3), (26, .aload_n 0, 1), (27, .iload_n 3, 1), (28, .iaload, 1), (29, .bipush 63, 2), (31, .iand, 1), (32, .tableswitch 1265 0 36 #[164, 187, 210, 223, 236, 259, 292, 315, 358, 381, 404, 427, 450, 473, 496, 519, 542, 565, 598, 631, 664, 687, 710, 763, 816, 869, 892, 915, 948, 1001, 1044, 1067, 1090, 1133, 1176, 1229, 1242], 164), (196, .aload_n 1, 1), (197, .aload_n 0, 1), (198, .iload_n 3, 1), (199, .iconst 1, 1), (200, .iadd, 1), (201, .iaload, 1), (202, .invokevirtual 13, 3), (205, .pop, 1), (206, .aload_n 2, 1), (207, .aload_n 0, 1), (208, .iload_n 3, 1), (209, .iconst 1, 1), (210, .iadd, 1), (211, .iaload, 1), (212, .invokevirtual 17, 3), (215, .pop, 1), (216, .goto 1081, 3), (219, .aload_n 1, 1), (220, .aload_n 0, 1), (221, .iload_n 3, 1), (222, .iconst 1, 1), (223, .iadd, 1), (224, .iaload, 1), (225, .invokevirtual 18, 3), (228, .pop, 1), (229, .aload_n 2, 1), (230, .aload_n 0, 1), (231, .iload_n 3, 1), (232, .iconst 1, 1), (233, .iadd, 1), (234, .iaload, 1), (235, .invokevirtual 21, 3), (238, .pop, 1), (239, .goto 1058, 3), (242, .aload_n 1, 1), (243, .invokevirtual 22, 3), (246, .aload_n 2, 1), (247, .invokevirtual 26, 3), (250, .if_icmp .eq 1047, 3), (253, .iconst 0, 1), (254, .ireturn, 1), (255, .aload_n 1, 1), (256, .invokevirtual 27, 3), (259, .pop, 1), (260, .aload_n 2, 1), (261, .invokevirtual 30, 3), (264, .pop, 1), (265, .goto 1032, 3), (268, .aload_n 1, 1), (269, .aload_n 0, 1), (270, .iload_n 3, 1), (271, .iconst 1, 1), (272, .iadd, 1), (273, .iaload, 1), (274, .invokevirtual 31, 3), (277, .pop, 1), (278, .aload_n 2, 1), (279, .aload_n 0, 1), (280, .iload_n 3, 1), (281, .iconst 1, 1), (282, .iadd, 1), (283, .iaload, 1), (284, .invokevirtual 34, 3), (287, .pop, 1), (288, .goto 1009, 3), (291, .aload_n 1, 1), (292, .aload_n 0, 1), (293, .iload_n 3, 1), (294, .iconst 1, 1), (295, .iadd, 1), (296, .iaload, 1), (297, .aload_n 0, 1), (298, .iload_n 3, 1), (299, .iconst 2, 1), (300, .iadd, 1), (301, .iaload, 1), (302, .invokevirtual 35, 3), (305, .pop, 1), (306, .aload_n 2, 1), (307, .aload_n 0, 1), (308, .iload_n 3, 1), (309, .iconst 1, 1), (310, .iadd, 1), (311, .iaload, 1), (312, .aload_n 0, 1), (313, .iload_n 3, 1), (314, .iconst 2, 1), (315, .iadd, 1), (316, .iaload, 1), (317, .invokevirtual 39, 3), (320, .pop, 1), (321, .goto 976, 3), (324, .aload_n 1, 1), (325, .aload_n 0, 1), (326, .iload_n 3, 1), (327, .iconst 1, 1), (328, .iadd, 1), (329, .iaload, 1), (330, .invokevirtual 40, 3), (333, .pop, 1), (334, .aload_n 2, 1), (335, .aload_n 0, 1), (336, .iload_n 3, 1), (337, .iconst 1, 1), (338, .iadd, 1), (339, .iaload, 1), (340, .invokevirtual 43, 3), (343, .pop, 1), (344, .goto 953, 3), (347, .aload_n 1, 1), (348, .aload_n 0, 1), (349, .iload_n 3, 1), (350, .iconst 1, 1), (351, .iadd, 1), (352, .iaload, 1), (353, .aload_n 0, 1), (354, .iload_n 3, 1), (355, .iconst 2, 1), (356, .iadd, 1), (357, .iaload, 1), (358, .aload_n 0, 1), (359, .iload_n 3, 1), (360, .iconst 3, 1), (361, .iadd, 1), (362, .iaload, 1), (363, .invokevirtual 44, 3), (366, .pop, 1), (367, .aload_n 2, 1), (368, .aload_n 0, 1), (369, .iload_n 3, 1), (370, .iconst 1, 1), (371, .iadd, 1), (372, .iaload, 1), (373, .aload_n 0, 1), (374, .iload_n 3, 1), (375, .iconst 2, 1), (376, .iadd, 1), (377, .iaload, 1), (378, .aload_n 0, 1), (379, .iload_n 3, 1), (380, .iconst 3, 1), (381, .iadd, 1), (382, .iaload, 1), (383, .invokevirtual 48, 3), (386, .pop, 1), (387, .goto 910, 3), (390, .aload_n 1, 1), (391, .aload_n 0, 1), (392, .iload_n 3, 1), (393, .iconst 1, 1), (394, .iadd, 1), (395, .iaload, 1), (396, .invokevirtual 49, 3), (399, .pop, 1), (400, .aload_n 2, 1), (401, .aload_n 0, 1), (402, .iload_n 3, 1), (403, .iconst 1, 1), (404, .iadd, 1), (405, .iaload, 1), (406, .invokevirtual 52, 3), (409, .pop, 1), (410, .goto 887, 3), (413, .aload_n 1, 1), (414, .aload_n 0, 1), (415, .iload_n 3, 1), (416, .iconst 1, 1), (417, .iadd, 1), (418, .iaload, 1), (419, .invokevirtual 53, 3), (422, .pop, 1), (423, .aload_n 2, 1), (424, .aload_n 0, 1), (425, .iload_n 3, 1), (426, .iconst 1, 1), (427, .iadd, 1), (428, .iaload, 1), (429, .invokevirtual 56, 3), (432, .pop, 1), (433, .goto 864, 3), (436, .aload_n 1, 1), (437, .aload_n 0, 1), (438, .iload_n 3, 1), (439, .iconst 1, 1), (440, .iadd, 1), (441, .iaload, 1), (442, .invokevirtual 57, 3), (445, .pop, 1), (446, .aload_n 2, 1), (447, .aload_n 0, 1), (448, .iload_n 3, 1), (449, .iconst 1, 1), (450, .iadd, 1), (451, .iaload, 1), (452, .invokevirtual 60, 3), (455, .pop, 1), (456, .goto 841, 3), (459, .aload_n 1, 1), (460, .aload_n 0, 1), (461, .iload_n 3, 1), (462, .iconst 1, 1), (463, .iadd, 1), (464, .iaload, 1), (465, .invokevirtual 61, 3), (468, .pop, 1), (469, .aload_n 2, 1), (470, .aload_n 0, 1), (471, .iload_n 3, 1), (472, .iconst 1, 1), (473, .iadd, 1), (474, .iaload, 1), (475, .invokevirtual 64, 3), (478, .pop, 1), (479, .goto 818, 3), (482, .aload_n 1, 1), (483, .aload_n 0, 1), (484, .iload_n 3, 1), (485, .iconst 1, 1), (486, .iadd, 1), (487, .iaload, 1), (488, .invokevirtual 65, 3), (491, .pop, 1), (492, .aload_n 2, 1), (493, .aload_n 0, 1), (494, .iload_n 3, 1), (495, .iconst 1, 1), (496, .iadd, 1), (497, .iaload, 1), (498, .invokevirtual 68, 3), (501, .pop, 1), (502, .goto 795, 3), (505, .aload_n 1, 1), (506, .aload_n 0, 1), (507, .iload_n 3, 1), (508, .iconst 1, 1), (509, .iadd, 1), (510, .iaload, 1), (511, .invokevirtual 69, 3), (514, .pop, 1), (515, .aload_n 2, 1), (516, .aload_n 0, 1), (517, .iload_n 3, 1), (518, .iconst 1, 1), (519, .iadd, 1), (520, .iaload, 1), (521, .invokevirtual 72, 3), (524, .pop, 1), (525, .goto 772, 3), (528, .aload_n 1, 1), (529, .aload_n 0, 1), (530, .iload_n 3, 1), (531, .iconst 1, 1), (532, .iadd, 1), (533, .iaload, 1), (534, .invokevirtual 73, 3), (537, .pop, 1), (538, .aload_n 2, 1), (539, .aload_n 0, 1), (540, .iload_n 3, 1), (541, .iconst 1, 1), (542, .iadd, 1), (543, .iaload, 1), (544, .invokevirtual 76, 3), (547, .pop, 1), (548, .goto 749, 3), (551, .aload_n 1, 1), (552, .aload_n 0, 1), (553, .iload_n 3, 1), (554, .iconst 1, 1), (555, .iadd, 1), (556, .iaload, 1), (557, .invokevirtual 77, 3), (560, .pop, 1), (561, .aload_n 2, 1), (562, .aload_n 0, 1), (563, .iload_n 3, 1), (564, .iconst 1, 1), (565, .iadd, 1), (566, .iaload, 1), (567, .invokevirtual 80, 3), (570, .pop, 1), (571, .goto 726, 3), (574, .aload_n 1, 1), (575, .aload_n 0, 1), (576, .iload_n 3, 1), (577, .iconst 1, 1), (578, .iadd, 1), (579, .iaload, 1), (580, .invokevirtual 81, 3), (583, .pop, 1), (584, .aload_n 2, 1), (585, .aload_n 0, 1), (586, .iload_n 3, 1), (587, .iconst 1, 1), (588, .iadd, 1), (589, .iaload, 1), (590, .invokevirtual 84, 3), (593, .pop, 1), (594, .goto 703, 3), (597, .aload_n 1, 1), (598, .aload_n 0, 1), (599, .iload_n 3, 1), (600, .iconst 1, 1), (601, .iadd, 1), (602, .iaload, 1), (603, .aload_n 0, 1), (604, .iload_n 3, 1), (605, .iconst 2, 1), (606, .iadd, 1), (607, .iaload, 1), (608, .invokevirtual 85, 3), (611, .pop, 1), (612, .aload_n 2, 1), (613, .aload_n 0, 1), (614, .iload_n 3, 1), (615, .iconst 1, 1), (616, .iadd, 1), (617, .iaload, 1), (618, .aload_n 0, 1), (619, .iload_n 3, 1), (620, .iconst 2, 1), (621, .iadd, 1), (622, .iaload, 1), (623, .invokevirtual 88, 3), (626, .pop, 1), (627, .goto 670, 3), (630, .aload_n 1, 1), (631, .aload_n 0, 1), (632, .iload_n 3, 1), (633, .iconst 1, 1), (634, .iadd, 1), (635, .iaload, 1), (636, .aload_n 0, 1), (637, .iload_n 3, 1), (638, .iconst 2, 1), (639, .iadd, 1), (640, .iaload, 1), (641, .invokevirtual 89, 3), (644, .pop, 1), (645, .aload_n 2, 1), (646, .aload_n 0, 1), (647, .iload_n 3, 1), (648, .iconst 1, 1), (649, .iadd, 1), (650, .iaload, 1), (651, .aload_n 0, 1), (652, .iload_n 3, 1), (653, .iconst 2, 1), (654, .iadd, 1), (655, .iaload, 1), (656, .invokevirtual 92, 3), (659, .pop, 1), (660, .goto 637, 3), (663, .aload_n 1, 1), (664, .aload_n 0, 1), (665, .iload_n 3, 1), (666, .iconst 1, 1), (667, .iadd, 1), (668, .iaload, 1), (669, .aload_n 0, 1), (670, .iload_n 3, 1), (671, .iconst 2, 1), (672, .iadd, 1), (673, .iaload, 1), (674, .invokevirtual 93, 3), (677, .pop, 1), (678, .aload_n 2, 1), (679, .aload_n 0, 1), (680, .iload_n 3, 1), (681, .iconst 1, 1), (682, .iadd, 1), (683, .iaload, 1), (684, .aload_n 0, 1), (685, .iload_n 3, 1), (686, .iconst 2, 1), (687, .iadd, 1), (688, .iaload, 1), (689, .invokevirtual 96, 3), (692, .pop, 1), (693, .goto 604, 3), (696, .aload_n 1, 1), (697, .aload_n 0, 1), (698, .iload_n 3, 1), (699, .iconst 1, 1), (700, .iadd, 1), (701, .iaload, 1), (702, .invokevirtual 97, 3), (705, .pop, 1), (706, .aload_n 2, 1), (707, .aload_n 0, 1), (708, .iload_n 3, 1), (709, .iconst 1, 1), (710, .iadd, 1), (711, .iaload, 1), (712, .invokevirtual 100, 3), (715, .pop, 1), (716, .goto 581, 3), (719, .aload_n 1, 1), (720, .aload_n 0, 1), (721, .iload_n 3, 1), (722, .iconst 1, 1), (723, .iadd, 1), (724, .iaload, 1), (725, .invokevirtual 101, 3), (728, .pop, 1), (729, .aload_n 2, 1), (730, .aload_n 0, 1), (731, .iload_n 3, 1), (732, .iconst 1, 1), (733, .iadd, 1), (734, .iaload, 1), (735, .invokevirtual 104, 3), (738, .pop, 1), (739, .goto 558, 3), (742, .aload_n 1, 1), (743, .aload_n 0, 1), (744, .iload_n 3, 1), (745, .iconst 1, 1), (746, .iadd, 1), (747, .iaload, 1), (748, .aload_n 0, 1), (749, .iload_n 3, 1), (750, .iconst 2, 1), (751, .iadd, 1), (752, .iaload, 1), (753, .aload_n 0, 1), (754, .iload_n 3, 1), (755, .iconst 3, 1), (756, .iadd, 1), (757, .iaload, 1), (758, .aload_n 0, 1), (759, .iload_n 3, 1), (760, .iconst 4, 1), (761, .iadd, 1), (762, .iaload, 1), (763, .invokevirtual 105, 3), (766, .pop2, 1), (767, .aload_n 2, 1), (768, .aload_n 0, 1), (769, .iload_n 3, 1), (770, .iconst 1, 1), (771, .iadd, 1), (772, .iaload, 1), (773, .aload_n 0, 1), (774, .iload_n 3, 1), (775, .iconst 2, 1), (776, .iadd, 1), (777, .iaload, 1), (778, .aload_n 0, 1), (779, .iload_n 3, 1), (780, .iconst 3, 1), (781, .iadd, 1), (782, .iaload, 1), (783, .aload_n 0, 1), (784, .iload_n 3, 1), (785, .iconst 4, 1), (786, .iadd, 1), (787, .iaload, 1), (788, .invokevirtual 109, 3), (791, .pop2, 1), (792, .goto 505, 3), (795, .aload_n 1, 1), (796, .aload_n 0, 1), (797, .iload_n 3, 1), (798, .iconst 1, 1), (799, .iadd, 1), (800, .iaload, 1), (801, .aload_n 0, 1), (802, .iload_n 3, 1), (803, .iconst 2, 1), (804, .iadd, 1), (805, .iaload, 1), (806, .aload_n 0, 1), (807, .iload_n 3, 1), (808, .iconst 3, 1), (809, .iadd, 1), (810, .iaload, 1), (811, .aload_n 0, 1), (812, .iload_n 3, 1), (813, .iconst 4, 1), (814, .iadd, 1), (815, .iaload, 1), (816, .invokevirtual 110, 3), (819, .pop2, 1), (820, .aload_n 2, 1), (821, .aload_n 0, 1), (822, .iload_n 3, 1), (823, .iconst 1, 1), (824, .iadd, 1), (825, .iaload, 1), (826, .aload_n 0, 1), (827, .iload_n 3, 1), (828, .iconst 2, 1), (829, .iadd, 1), (830, .iaload, 1), (831, .aload_n 0, 1), (832, .iload_n 3, 1), (833, .iconst 3, 1), (834, .iadd, 1), (835, .iaload, 1), (836, .aload_n 0, 1), (837, .iload_n 3, 1), (838, .iconst 4, 1), (839, .iadd, 1), (840, .iaload, 1), (841, .invokevirtual 113, 3), (844, .pop2, 1), (845, .goto 452, 3), (848, .aload_n 1, 1), (849, .aload_n 0, 1), (850, .iload_n 3, 1), (851, .iconst 1, 1), (852, .iadd, 1), (853, .iaload, 1), (854, .aload_n 0, 1), (855, .iload_n 3, 1), (856, .iconst 2, 1), (857, .iadd, 1), (858, .iaload, 1), (859, .aload_n 0, 1), (860, .iload_n 3, 1), (861, .iconst 3, 1), (862, .iadd, 1), (863, .iaload, 1), (864, .aload_n 0, 1), (865, .iload_n 3, 1), (866, .iconst 4, 1), (867, .iadd, 1), (868, .iaload, 1), (869, .invokevirtual 114, 3), (872, .pop, 1), (873, .aload_n 2, 1), (874, .aload_n 0, 1), (875, .iload_n 3, 1), (876, .iconst 1, 1), (877, .iadd, 1), (878, .iaload, 1), (879, .aload_n 0, 1), (880, .iload_n 3, 1), (881, .iconst 2, 1), (882, .iadd, 1), (883, .iaload, 1), (884, .aload_n 0, 1), (885, .iload_n 3, 1), (886, .iconst 3, 1), (887, .iadd, 1), (888, .iaload, 1), (889, .aload_n 0, 1), (890, .iload_n 3, 1), (891, .iconst 4, 1), (892, .iadd, 1), (893, .iaload, 1), (894, .invokevirtual 118, 3), (897, .pop, 1), (898, .goto 399, 3), (901, .aload_n 1, 1), (902, .aload_n 0, 1), (903, .iload_n 3, 1), (904, .iconst 1, 1), (905, .iadd, 1), (906, .iaload, 1), (907, .invokevirtual 119, 3), (910, .pop, 1), (911, .aload_n 2, 1), (912, .aload_n 0, 1), (913, .iload_n 3, 1), (914, .iconst 1, 1), (915, .iadd, 1), (916, .iaload, 1), (917, .invokevirtual 122, 3), (920, .pop, 1), (921, .goto 376, 3), (924, .aload_n 1, 1), (925, .aload_n 0, 1), (926, .iload_n 3, 1), (927, .iconst 1, 1), (928, .iadd, 1), (929, .iaload, 1), (930, .invokevirtual 123, 3), (933, .pop, 1), (934, .aload_n 2, 1), (935, .aload_n 0, 1), (936, .iload_n 3, 1), (937, .iconst 1, 1), (938, .iadd, 1), (939, .iaload, 1), (940, .invokevirtual 126, 3), (943, .pop, 1), (944, .goto 353, 3), (947, .aload_n 1, 1), (948, .aload_n 0, 1), (949, .iload_n 3, 1), (950, .iconst 1, 1), (951, .iadd, 1), (952, .iaload, 1), (953, .aload_n 0, 1), (954, .iload_n 3, 1), (955, .iconst 2, 1), (956, .iadd, 1), (957, .iaload, 1), (958, .invokevirtual 127, 3), (961, .pop, 1), (962, .aload_n 2, 1), (963, .aload_n 0, 1), (964, .iload_n 3, 1), (965, .iconst 1, 1), (966, .iadd, 1), (967, .iaload, 1), (968, .aload_n 0, 1), (969, .iload_n 3, 1), (970, .iconst 2, 1), (971, .iadd, 1), (972, .iaload, 1), (973, .invokevirtual 130, 3), (976, .pop, 1), (977, .goto 320, 3), (980, .aload_n 1, 1), (981, .aload_n 0, 1), (982, .iload_n 3, 1), (983, .iconst 1, 1), (984, .iadd, 1), (985, .iaload, 1), (986, .aload_n 0, 1), (987, .iload_n 3, 1), (988, .iconst 2, 1), (989, .iadd, 1), (990, .iaload, 1), (991, .aload_n 0, 1), (992, .iload_n 3, 1), (993, .iconst 3, 1), (994, .iadd, 1), (995, .iaload, 1), (996, .aload_n 0, 1), (997, .iload_n 3, 1), (998, .iconst 4, 1), (999, .iadd, 1), (1000, .iaload, 1), (1001, .invokevirtual 131, 3), (1004, .pop, 1), (1005, .aload_n 2, 1), (1006, .aload_n 0, 1), (1007, .iload_n 3, 1), (1008, .iconst 1, 1), (1009, .iadd, 1), (1010, .iaload, 1), (1011, .aload_n 0, 1), (1012, .iload_n 3, 1), (1013, .iconst 2, 1), (1014, .iadd, 1), (1015, .iaload, 1), (1016, .aload_n 0, 1), (1017, .iload_n 3, 1), (1018, .iconst 3, 1), (1019, .iadd, 1), (1020, .iaload, 1), (1021, .aload_n 0, 1), (1022, .iload_n 3, 1), (1023, .iconst 4, 1), (1024, .iadd, 1), (1025, .iaload, 1), (1026, .invokevirtual 134, 3), (1029, .pop, 1), (1030, .goto 267, 3), (1033, .aload_n 1, 1), (1034, .aload_n 0, 1), (1035, .iload_n 3, 1), (1036, .iconst 1, 1), (1037, .iadd, 1), (1038, .iaload, 1), (1039, .aload_n 0, 1), (1040, .iload_n 3, 1), (1041, .iconst 2, 1), (1042, .iadd, 1), (1043, .iaload, 1), (1044, .aload_n 0, 1), (1045, .iload_n 3, 1), (1046, .iconst 3, 1), (1047, .iadd, 1), (1048, .iaload, 1), (1049, .invokevirtual 135, 3), (1052, .pop, 1), (1053, .aload_n 2, 1), (1054, .aload_n 0, 1), (1055, .iload_n 3, 1), (1056, .iconst 1, 1), (1057, .iadd, 1), (1058, .iaload, 1), (1059, .aload_n 0, 1), (1060, .iload_n 3, 1), (1061, .iconst 2, 1), (1062, .iadd, 1), (1063, .iaload, 1), (1064, .aload_n 0, 1), (1065, .iload_n 3, 1), (1066, .iconst 3, 1), (1067, .iadd, 1), (1068, .iaload, 1), (1069, .invokevirtual 138, 3), (1072, .pop, 1), (1073, .goto 224, 3), (1076, .aload_n 1, 1), (1077, .aload_n 0, 1), (1078, .iload_n 3, 1), (1079, .iconst 1, 1), (1080, .iadd, 1), (1081, .iaload, 1), (1082, .invokevirtual 139, 3), (1085, .pop, 1), (1086, .aload_n 2, 1), (1087, .aload_n 0, 1), (1088, .iload_n 3, 1), (1089, .iconst 1, 1), (1090, .iadd, 1), (1091, .iaload, 1), (1092, .invokevirtual 142, 3), (1095, .pop, 1), (1096, .goto 201, 3), (1099, .aload_n 1, 1), (1100, .aload_n 0, 1), (1101, .iload_n 3, 1), (1102, .iconst 1, 1), (1103, .iadd, 1), (1104, .iaload, 1), (1105, .invokevirtual 143, 3), (1108, .pop, 1), (1109, .aload_n 2, 1), (1110, .aload_n 0, 1), (1111, .iload_n 3, 1), (1112, .iconst 1, 1), (1113, .iadd, 1), (1114, .iaload, 1), (1115, .invokevirtual 146, 3), (1118, .pop, 1), (1119, .goto 178, 3), (1122, .aload_n 1, 1), (1123, .aload_n 0, 1), (1124, .iload_n 3, 1), (1125, .iconst 1, 1), (1126, .iadd, 1), (1127, .iaload, 1), (1128, .aload_n 0, 1), (1129, .iload_n 3, 1), (1130, .iconst 2, 1), (1131, .iadd, 1), (1132, .iaload, 1), (1133, .aload_n 0, 1), (1134, .iload_n 3, 1), (1135, .iconst 3, 1), (1136, .iadd, 1), (1137, .iaload, 1), (1138, .invokevirtual 147, 3), (1141, .pop, 1), (1142, .aload_n 2, 1), (1143, .aload_n 0, 1), (1144, .iload_n 3, 1), (1145, .iconst 1, 1), (1146, .iadd, 1), (1147, .iaload, 1), (1148, .aload_n 0, 1), (1149, .iload_n 3, 1), (1150, .iconst 2, 1), (1151, .iadd, 1), (1152, .iaload, 1), (1153, .aload_n 0, 1), (1154, .iload_n 3, 1), (1155, .iconst 3, 1), (1156, .iadd, 1), (1157, .iaload, 1), (1158, .invokevirtual 150, 3), (1161, .pop, 1), (1162, .goto 135, 3), (1165, .aload_n 1, 1), (1166, .aload_n 0, 1), (1167, .iload_n 3, 1), (1168, .iconst 1, 1), (1169, .iadd, 1), (1170, .iaload, 1), (1171, .aload_n 0, 1), (1172, .iload_n 3, 1), (1173, .iconst 2, 1), (1174, .iadd, 1), (1175, .iaload, 1), (1176, .aload_n 0, 1), (1177, .iload_n 3, 1), (1178, .iconst 3, 1), (1179, .iadd, 1), (1180, .iaload, 1), (1181, .invokevirtual 151, 3), (1184, .pop, 1), (1185, .aload_n 2, 1), (1186, .aload_n 0, 1), (1187, .iload_n 3, 1), (1188, .iconst 1, 1), (1189, .iadd, 1), (1190, .iaload, 1), (1191, .aload_n 0, 1), (1192, .iload_n 3, 1), (1193, .iconst 2, 1), (1194, .iadd, 1), (1195, .iaload, 1), (1196, .aload_n 0, 1), (1197, .iload_n 3, 1), (1198, .iconst 3, 1), (1199, .iadd, 1), (1200, .iaload, 1), (1201, .invokevirtual 154, 3), (1204, .pop, 1), (1205, .goto 92, 3), (1208, .aload_n 1, 1), (1209, .aload_n 0, 1), (1210, .iload_n 3, 1), (1211, .iconst 1, 1), (1212, .iadd, 1), (1213, .iaload, 1), (1214, .aload_n 0, 1), (1215, .iload_n 3, 1), (1216, .iconst 2, 1), (1217, .iadd, 1), (1218, .iaload, 1), (1219, .aload_n 0, 1), (1220, .iload_n 3, 1), (1221, .iconst 3, 1), (1222, .iadd, 1), (1223, .iaload, 1), (1224, .aload_n 0, 1), (1225, .iload_n 3, 1), (1226, .iconst 4, 1), (1227, .iadd, 1), (1228, .iaload, 1), (1229, .invokevirtual 155, 3), (1232, .pop, 1), (1233, .aload_n 2, 1), (1234, .aload_n 0, 1), (1235, .iload_n 3, 1), (1236, .iconst 1, 1), (1237, .iadd, 1), (1238, .iaload, 1), (1239, .aload_n 0, 1), (1240, .iload_n 3, 1), (1241, .iconst 2, 1), (1242, .iadd, 1), (1243, .iaload, 1), (1244, .aload_n 0, 1), (1245, .iload_n 3, 1), (1246, .iconst 3, 1), (1247, .iadd, 1), (1248, .iaload, 1), (1249, .aload_n 0, 1), (1250, .iload_n 3, 1), (1251, .iconst 4, 1), (1252, .iadd, 1), (1253, .iaload, 1), (1254, .invokevirtual 158, 3), (1257, .pop, 1), (1258, .goto 39, 3), (1261, .aload_n 1, 1), (1262, .invokevirtual 159, 3), (1265, .pop, 1), (1266, .aload_n 2, 1), (1267, .invokevirtual 162, 3), (1270, .pop, 1), (1271, .goto 26, 3), (1274, .aload_n 1, 1), (1275, .aload_n 0, 1), (1276, .iload_n 3, 1), (1277, .iconst 1, 1), (1278, .iadd, 1), (1279, .iaload, 1), (1280, .invokevirtual 163, 3), (1283, .pop, 1), (1284, .aload_n 2, 1), (1285, .aload_n 0, 1), (1286, .iload_n 3, 1), (1287, .iconst 1, 1), (1288, .iadd, 1), (1289, .iaload, 1), (1290, .invokevirtual 166, 3), (1293, .pop, 1), (1294, .goto 3, 3), (1297, .iinc 3 5, 3), (1300, .goto (-1282), 3), (1303, .iconst 1, 1), (1304, .ireturn, 1)]
def tb_m169 : ai_m := (yL_law, cL_law, 4, (some .boolean), true, tb_i169, tb_fl_RL, tb_fp_RL, tb_ci_RL, tb_cl_RL, tb_ml_RL, [])
def tb_i170 : List (Nat × Instr × Nat) := [(0, .iload_n 0, 1), (1, .iload_n 0, 1), (2, .iconst 1, 1), (3, .iushr, 1), (4, .ldc_w 265, 3), (7, .iand, 1), (8, .isub, 1), (9, .istore_n 0, 1), (10, .iload_n 0, 1), (11, .ldc_w 266, 3), (14, .iand, 1), (15, .iload_n 0, 1), (16, .iconst 2, 1), (17, .iushr, 1), (18, .ldc_w 266, 3), (21, .iand, 1), (22, .iadd, 1), (23, .istore_n 0, 1), (24, .iload_n 0, 1), (25, .iload_n 0, 1), (26, .iconst 4, 1), (27, .iushr, 1), (28, .iadd, 1), (29, .ldc_w 267, 3), (32, .iand, 1), (33, .istore_n 0, 1), (34, .iload_n 0, 1), (35, .iload_n 0, 1), (36, .bipush 8, 2), (38, .iushr, 1), (39, .iadd, 1), (40, .istore_n 0, 1), (41, .iload_n 0, 1), (42, .iload_n 0, 1), (43, .bipush 16, 2), (45, .iushr, 1), (46, .iadd, 1), (47, .istore_n 0, 1), (48, .iload_n 0, 1), (49, .bipush 63, 2), (51, .iand, 1), (52, .ireturn, 1)]
def tb_m170 : ai_m := (yJ6_bitCount_0f7a4, cJ6_bitCount_0f7a4, 1, (some .int), false, tb_i170, tb_fl_RJ6, tb_fp_RJ6, tb_ci_RJ6, tb_cl_RJ6, tb_ml_RJ6, [])
def tb_MT : List ai_m := [tb_m0, tb_m1, tb_m2, tb_m3, tb_m4, tb_m5, tb_m6, tb_m7, tb_m8, tb_m9, tb_m10, tb_m11, tb_m12, tb_m13, tb_m14, tb_m15, tb_m16, tb_m17, tb_m18, tb_m19, tb_m20, tb_m21, tb_m22, tb_m23, tb_m24, tb_m25, tb_m26, tb_m27, tb_m28, tb_m29, tb_m30, tb_m31, tb_m32, tb_m33, tb_m34, tb_m35, tb_m36, tb_m37, tb_m38, tb_m39, tb_m40, tb_m41, tb_m42, tb_m43, tb_m44, tb_m45, tb_m46, tb_m47, tb_m48, tb_m49, tb_m50, tb_m51, tb_m52, tb_m53, tb_m54, tb_m55, tb_m56, tb_m57, tb_m58, tb_m59, tb_m60, tb_m61, tb_m62, tb_m63, tb_m64, tb_m65, tb_m66, tb_m67, tb_m68, tb_m69, tb_m70, tb_m71, tb_m72, tb_m73, tb_m74, tb_m75, tb_m76, tb_m77, tb_m78, tb_m79, tb_m80, tb_m81, tb_m82, tb_m83, tb_m84, tb_m85, tb_m86, tb_m87, tb_m88, tb_m89, tb_m90, tb_m91, tb_m92, tb_m93, tb_m94, tb_m95, tb_m96, tb_m97, tb_m98, tb_m99, tb_m100, tb_m101, tb_m102, tb_m103, tb_m104, tb_m105, tb_m106, tb_m107, tb_m108, tb_m109, tb_m110, tb_m111, tb_m112, tb_m113, tb_m114, tb_m115, tb_m116, tb_m117, tb_m118, tb_m119, tb_m120, tb_m121, tb_m122, tb_m123, tb_m124, tb_m125, tb_m126, tb_m127, tb_m128, tb_m129, tb_m130, tb_m131, tb_m132, tb_m133, tb_m134, tb_m135, tb_m136, tb_m137, tb_m138, tb_m139, tb_m140, tb_m141, tb_m142, tb_m143, tb_m144, tb_m145, tb_m146, tb_m147, tb_m148, tb_m149, tb_m150, tb_m151, tb_m152, tb_m153, tb_m154, tb_m155, tb_m156, tb_m157, tb_m158, tb_m159, tb_m160, tb_m161, tb_m162, tb_m163, tb_m164, tb_m165, tb_m166, tb_m167, tb_m168, tb_m169, tb_m170]
def tb_SP : List (Nat × Nat × Nat) := [(103, 8, 1), (109, 48, 1076), (109, 49, 1066), (128, 8, 1056), (128, 56, 1090), (128, 106, 1141), (128, 141, 1163), (151, 0, 1029), (162, 13, 1), (163, 13, 1), (166, 46, 1), (166, 130, 1151)]
def tb_MG : List ai_g := [(1, false, [], []), (5, false, [], []), (6, false, [], []), (7, false, [], []), (10, false, [], []), (13, false, [], []), (14, false, [], []), (15, false, [], []), (16, false, [], []), (17, false, [], []), (18, false, [], []), (19, false, [], []), (21, false, [], []), (22, false, [], []), (23, false, [], []), (26, false, [], []), (27, false, [], []), (28, false, [], []), (29, false, [], []), (30, false, [], []), (34, false, [], []), (35, false, [], []), (36, false, [], []), (37, false, [], []), (48, false, [], []), (49, false, [], []), (50, false, [], []), (51, false, [], []), (52, false, [], []), (53, false, [], []), (56, false, [], []), (57, false, [], []), (58, false, [], []), (59, false, [], []), (60, false, [], []), (61, false, [], []), (62, false, [], []), (63, false, [], []), (64, false, [], []), (65, false, [], []), (67, false, [], []), (68, false, [], []), (69, false, [], []), (70, false, [], []), (71, false, [], []), (72, false, [], []), (73, false, [], []), (74, false, [], []), (75, false, [], []), (76, false, [], []), (77, false, [], []), (79, false, [], []), (80, false, [], []), (81, false, [], []), (82, false, [], []), (83, false, [], []), (84, false, [], []), (85, false, [], []), (86, false, [], []), (87, false, [], []), (89, false, [], []), (90, false, [], []), (91, false, [], []), (92, false, [], []), (93, false, [], []), (96, false, [], []), (97, false, [], []), (103, false, [], []), (104, false, [(49, 13), (49, 9)], [(49, 11), (49, 13), (49, 9)]), (105, false, [(49, 13), (49, 9)], [(49, 11), (49, 13), (49, 9)]), (106, false, [(49, 13), (49, 9)], [(49, 11), (51, 26), (49, 13), (49, 9)]), (107, false, [(49, 13), (49, 9)], [(49, 11), (51, 26), (49, 13), (49, 9)]), (108, false, [(49, 13), (49, 9)], [(49, 11), (51, 26), (49, 13), (49, 9)]), (109, false, [], []), (110, false, [], []), (112, false, [], []), (114, false, [], []), (116, false, [], []), (117, false, [], []), (118, false, [], []), (119, false, [], []), (120, false, [], []), (122, false, [], []), (123, false, [], []), (124, false, [], []), (125, false, [], []), (126, false, [], []), (128, false, [], []), (129, false, [], []), (130, false, [], []), (132, false, [], []), (133, false, [], []), (135, false, [], []), (137, false, [], []), (138, false, [], []), (139, false, [], []), (140, false, [], []), (141, false, [], []), (143, false, [], []), (144, false, [], []), (145, false, [], []), (146, false, [], []), (147, false, [], []), (148, false, [], []), (149, false, [], []), (153, false, [], []), (154, false, [], []), (155, false, [], []), (156, false, [], []), (157, false, [], []), (158, false, [], []), (159, false, [], []), (160, false, [], []), (161, false, [], []), (162, false, [], []), (163, false, [], []), (164, false, [], []), (165, false, [], []), (166, false, [], []), (167, false, [], []), (168, false, [], [])]
def tb_su (mid : Nat) (st : ai_s) : Option (List ai_s) := if mid = 150 then (if ((ai_get st.2.1 0).any fun v => ai_tL v.1) && ((ai_get st.2.1 2).any fun v => (ai_l st.2.2.2.1 v).any fun p => decide (1 ≤ p.1)) && ((ai_get st.2.1 4).any fun v => ai_tI v.1) && st.2.2.1.isEmpty && Nat.blt 1 st.2.2.2.1.length then some [(44, [], [(2, st.2.2.2.1.length, 0, 0)], ai_nu st.2.2.2.1 (-9223372036854775808) 9223372036854775807, st.2.2.2.2.1, st.2.2.2.2.2)] else none) else if mid = 37 then (if decide (ai_get st.2.1 0 = some (0, 26, 0, 0)) && st.2.2.1.isEmpty && Nat.blt 1 st.2.2.2.1.length then some [(20, [], [(1, st.2.2.2.1.length, 0, 0)], ai_nu st.2.2.2.1 0 7, st.2.2.2.2.1, st.2.2.2.2.2), (29, [], [(1, st.2.2.2.1.length, 0, 0)], ai_nu st.2.2.2.1 0 7, st.2.2.2.2.1, st.2.2.2.2.2)] else none) else none
def tb_K : ai_K := (tb_TY, tb_WR, tb_MT, tb_SP, tb_su, tb_MG)
end
section
/-! the tables are true: links, fields, constants, codes -/
def tv_in (w : Cond) : Bool := goodWord w && decide (w ∈ lw_tbl)
theorem tv_mem {w : Cond} (h : tv_in w = true) : w ∈ ai_GT := by
  unfold tv_in at h
  rw [Bool.and_eq_true, decide_eq_true_eq] at h
  exact List.mem_filter.mpr ⟨h.2, h.1⟩
theorem tv_uws : (vwCl.all fun r => (u_ws r.1 r.2.1 r.2.2).all tv_in) = true := by decide +kernel
theorem tv_uws_ok {k : Nat} {r : vw_C} (h : vwCl[k]? = some r) : ∀ w ∈ u_ws r.1 r.2.1 r.2.2, w ∈ ai_GT := fun w hw => tv_mem (List.all_eq_true.mp (List.all_eq_true.mp tv_uws r (List.mem_of_getElem? h)) w hw)
theorem tv_ty {k : Nat} {r : vw_C} (h : vwCl[k]? = some r) : ∃ ty0 : Nat → FieldType, (∀ j, j < r.2.2 → parseFieldDescriptor (r.2.1 j).2.2.1 = some (ty0 j)) ∧ ∀ a, a < r.2.2 → ∀ b, b < r.2.2 → a ≠ b → (r.2.1 a).2.1 ≠ (r.2.1 b).2.1 := by
  match k, h with
  | 0, h => cases h; exact ⟨tyX0, tyX0_ok, nmX0⟩
  | 1, h => cases h; exact ⟨tyX1, tyX1_ok, nmX1⟩
  | 2, h => cases h; exact ⟨tyX2, tyX2_ok, nmX2⟩
  | 3, h => cases h; exact ⟨tyX3, tyX3_ok, nmX3⟩
  | 4, h => cases h; exact ⟨tyX4, tyX4_ok, nmX4⟩
  | 5, h => cases h; exact ⟨tyX5, tyX5_ok, nmX5⟩
  | 6, h => cases h; exact ⟨tyX6, tyX6_ok, nmX6⟩
  | k + 7, h => simp [vwCl] at h
def tv_fl (own : String) (q : Nat × Nat × Nat) : Bool := match vwCl[q.2.1]? with
  | some r => decide (q.2.2 < r.2.2) && tv_in (Cond.fieldLink own q.1 (r.2.1 q.2.2).1 (r.2.1 q.2.2).2.1 (r.2.1 q.2.2).2.2.1)
  | none => false
theorem tv_fl_ok {own : String} {q : Nat × Nat × Nat} (h : tv_fl own q = true) : ai_flok own q.2.1 q.2.2 q.1 := by
  unfold tv_fl at h
  split at h
  · rename_i r hr
    rw [Bool.and_eq_true, decide_eq_true_eq] at h
    exact ⟨r.1, r.2.1, r.2.2, hr, h.1, tv_mem h.2, tv_uws_ok hr⟩
  · cases h
def tv_fp (own : String) (q : Nat × Nat × Nat × Nat) : Bool := match vwCl[q.2.1]? with
  | some r => decide (q.2.2.1 < r.2.2) && tv_in (Cond.fieldLink own q.1 (r.2.1 q.2.2.1).1 (r.2.1 q.2.2.1).2.1 (r.2.1 q.2.2.1).2.2.1) && decide ((r.2.1 q.2.2.1).2.2.2 = false) && decide (parseFieldDescriptor (r.2.1 q.2.2.1).2.2.1 = some (if q.2.2.2 = 1 then .int else .long))
  | none => false
theorem tv_fp_ok {own : String} {q : Nat × Nat × Nat × Nat} (h : tv_fp own q = true) : ai_fpok own q.2.1 q.2.2.1 q.1 q.2.2.2 := by
  unfold tv_fp at h
  split at h
  · rename_i r hr
    simp only [Bool.and_eq_true, decide_eq_true_eq] at h
    obtain ⟨ty0, t1, t2⟩ := tv_ty hr
    exact ⟨r.1, r.2.1, r.2.2, ty0, hr, h.1.1.1, tv_mem h.1.1.2, tv_uws_ok hr, t1, t2, h.1.2, h.2⟩
  · cases h
def tv_y (y : MethodName) (n : Nat) : Bool := decide (y.cls ≠ "java/lang/invoke/MethodHandle") && decide (y.cls ≠ "java/lang/invoke/VarHandle") && decide ((parseMethodDescriptor y.desc).map (fun d => d.parameters.length) = some n)
theorem tv_y_ok {y : MethodName} {n : Nat} (h : tv_y y n = true) : y.cls ≠ "java/lang/invoke/MethodHandle" ∧ y.cls ≠ "java/lang/invoke/VarHandle" ∧ (parseMethodDescriptor y.desc).map (fun d => d.parameters.length) = some n := by
  unfold tv_y at h
  simp only [Bool.and_eq_true, decide_eq_true_eq] at h
  exact ⟨h.1.1, h.1.2, h.2⟩
def tv_host (own : String) (i : Nat) (y : MethodName) : Bool := decide (Cond.methodLinkNest own i y "HornTests" ∈ lw_tbl)
def tv_l (MT : List ai_m) (own : String) (q : ai_l5) : Bool := match q.2.1 with
  | 0 => (match MT[q.2.2.1]?, vwCl[q.2.2.2.2]? with
    | some M', some r => decide (M'.1.cls = r.1) && tv_in (.methodLink own q.1 M'.1) && tv_in (.instanceMethod M'.1) && tv_in (.selects r.1 M'.1 M'.1) && tv_in (.initialized r.1) && tv_in (Cond.code M'.1 M'.2.1 M'.2.2.1 M'.2.2.2.1) && tv_y M'.1 q.2.2.2.1
    | _, _ => false)
  | 1 => (match MT[q.2.2.1]? with
    | some M' => tv_in (.methodLink own q.1 M'.1) && tv_in (.static M'.1) && tv_in (.initialized M'.1.cls) && tv_in (Cond.code M'.1 M'.2.1 M'.2.2.1 M'.2.2.2.1) && tv_y M'.1 q.2.2.2.1
    | none => false)
  | 2 => (match MT[q.2.2.1]? with
    | some M' => tv_host own q.1 M'.1 && tv_in (.static M'.1) && tv_in (.initialized M'.1.cls) && tv_in (Cond.code M'.1 M'.2.1 M'.2.2.1 M'.2.2.2.1) && tv_y M'.1 q.2.2.2.1
    | none => false)
  | 3 => tv_in (.methodLink own q.1 Lib.Math.min.name) && tv_in (.static Lib.Math.min.name) && tv_in (.initialized "java/lang/Math") && tv_in (Cond.code Lib.Math.min.name Lib.Math.min.code 2 (some .int))
  | 4 => tv_in (.methodLink own q.1 Lib.Math.max.name) && tv_in (.static Lib.Math.max.name) && tv_in (.initialized "java/lang/Math") && tv_in (Cond.code Lib.Math.max.name Lib.Math.max.code 2 (some .int))
  | _ => tv_in (.methodLink own q.1 arraycopyName) && tv_in (.native arraycopyName) && tv_in (.static arraycopyName) && tv_in (.initialized "java/lang/System")
theorem tv_good {ws : List Cond} (h : ∀ w ∈ ws, w ∈ ai_GT) : GoodIn ai_GT ws := fun w hw => ⟨h w hw, good_of_word (ai_goodGT w (h w hw))⟩
theorem tv_l_ok {MT : List ai_m} {own : String} {q : ai_l5} (h : tv_l MT own q = true) : ai_lok MT own q := by
  unfold tv_l at h
  unfold ai_lok
  split at h
  · rename_i hk
    rw [hk]
    split at h
    · rename_i M' r h1 h2
      simp only [Bool.and_eq_true, decide_eq_true_eq] at h
      obtain ⟨⟨⟨⟨⟨⟨a1, a2⟩, a3⟩, a4⟩, a5⟩, a6⟩, a7⟩ := h
      refine ⟨M', r, h1, h2, tv_good fun w hw => ?_, a1, tv_y_ok a7⟩
      unfold wsV at hw
      rcases List.mem_append.mp hw with hw | hw
      · simp only [List.mem_cons, List.not_mem_nil, or_false] at hw
        rcases hw with rfl | rfl | rfl | rfl
        · exact tv_mem a2
        · exact tv_mem a3
        · exact tv_mem a4
        · exact tv_mem a5
      · rcases List.mem_cons.mp hw with rfl | hw
        · exact tv_mem a6
        · exact hw
    · cases h
  · rename_i hk
    rw [hk]
    split at h
    · rename_i M' h1
      simp only [Bool.and_eq_true] at h
      obtain ⟨⟨⟨⟨a2, a3⟩, a5⟩, a6⟩, a7⟩ := h
      refine ⟨M', h1, tv_good fun w hw => ?_, tv_y_ok a7⟩
      unfold va_wsS at hw
      rcases List.mem_append.mp hw with hw | hw
      · simp only [List.mem_cons, List.not_mem_nil, or_false] at hw
        rcases hw with rfl | rfl | rfl
        · exact tv_mem a2
        · exact tv_mem a3
        · exact tv_mem a5
      · rcases List.mem_cons.mp hw with rfl | hw
        · exact tv_mem a6
        · exact hw
    · cases h
  · rename_i hk
    rw [hk]
    split at h
    · rename_i M' h1
      simp only [Bool.and_eq_true] at h
      obtain ⟨⟨⟨⟨a2, a3⟩, a5⟩, a6⟩, a7⟩ := h
      refine ⟨M', "HornTests", h1, List.mem_filter.mpr ⟨by unfold tv_host at a2; exact of_decide_eq_true a2, rfl⟩, ai_goodIn (tv_mem a6), tv_mem a3, tv_mem a5, tv_y_ok a7⟩
    · cases h
  · rename_i hk
    rw [hk]
    simp only [Bool.and_eq_true] at h
    exact ⟨tv_mem h.1.1.1, tv_mem h.1.1.2, tv_mem h.1.2, tv_mem h.2⟩
  · rename_i hk
    rw [hk]
    simp only [Bool.and_eq_true] at h
    exact ⟨tv_mem h.1.1.1, tv_mem h.1.1.2, tv_mem h.1.2, tv_mem h.2⟩
  · rename_i k0 k1 k2 k3 k4
    simp only [Bool.and_eq_true] at h
    have hres : Cond.methodLink own q.1 arraycopyName ∈ ai_GT ∧ Cond.native arraycopyName ∈ ai_GT ∧ Cond.static arraycopyName ∈ ai_GT ∧ Cond.initialized "java/lang/System" ∈ ai_GT := ⟨tv_mem h.1.1.1, tv_mem h.1.1.2, tv_mem h.1.2, tv_mem h.2⟩
    have hz5 : 5 ≤ q.2.1 := by
      rcases Nat.lt_or_ge q.2.1 5 with h5 | h5
      · exfalso
        have h6 : q.2.1 = 0 ∨ q.2.1 = 1 ∨ q.2.1 = 2 ∨ q.2.1 = 3 ∨ q.2.1 = 4 := by omega
        rcases h6 with e | e | e | e | e <;> first | exact k0 e | exact k1 e | exact k2 e | exact k3 e | exact k4 e
      · exact h5
    obtain ⟨z, hz⟩ : ∃ z, q.2.1 = z + 5 := ⟨q.2.1 - 5, by omega⟩
    rw [hz]
    exact hres
theorem tv_fl_RX0 : ∀ q ∈ tb_fl_RX0, ai_flok RX0 q.2.1 q.2.2 q.1 := fun q h => tv_fl_ok (List.all_eq_true.mp (show (tb_fl_RX0.all (tv_fl RX0)) = true by decide +kernel) q h)
theorem tv_fp_RX0 : ∀ q ∈ tb_fp_RX0, ai_fpok RX0 q.2.1 q.2.2.1 q.1 q.2.2.2 := fun q h => tv_fp_ok (List.all_eq_true.mp (show (tb_fp_RX0.all (tv_fp RX0)) = true by decide +kernel) q h)
theorem tv_ci_RX0 : ∀ q ∈ tb_ci_RX0, Cond.constant RX0 q.1 (Int32.ofInt q.2) ∈ ai_GT ∧ ai_ir q.2 q.2 = true := fun q h => by
  have h1 := List.all_eq_true.mp (show (tb_ci_RX0.all fun q => tv_in (Cond.constant RX0 q.1 (Int32.ofInt q.2)) && ai_ir q.2 q.2) = true by decide +kernel) q h
  rw [Bool.and_eq_true] at h1
  exact ⟨tv_mem h1.1, h1.2⟩
theorem tv_cl_RX0 : ∀ q ∈ tb_cl_RX0, Cond.constantLong RX0 q.1 (Int64.ofInt q.2) ∈ ai_GT ∧ (Int64.ofInt q.2).toInt = q.2 := fun q h => by
  have h1 := List.all_eq_true.mp (show (tb_cl_RX0.all fun q => tv_in (Cond.constantLong RX0 q.1 (Int64.ofInt q.2)) && decide ((Int64.ofInt q.2).toInt = q.2)) = true by decide +kernel) q h
  rw [Bool.and_eq_true, decide_eq_true_eq] at h1
  exact ⟨tv_mem h1.1, h1.2⟩
theorem tv_fl_RX1 : ∀ q ∈ tb_fl_RX1, ai_flok RX1 q.2.1 q.2.2 q.1 := fun q h => tv_fl_ok (List.all_eq_true.mp (show (tb_fl_RX1.all (tv_fl RX1)) = true by decide +kernel) q h)
theorem tv_fp_RX1 : ∀ q ∈ tb_fp_RX1, ai_fpok RX1 q.2.1 q.2.2.1 q.1 q.2.2.2 := fun q h => tv_fp_ok (List.all_eq_true.mp (show (tb_fp_RX1.all (tv_fp RX1)) = true by decide +kernel) q h)
theorem tv_ci_RX1 : ∀ q ∈ tb_ci_RX1, Cond.constant RX1 q.1 (Int32.ofInt q.2) ∈ ai_GT ∧ ai_ir q.2 q.2 = true := fun q h => by
  have h1 := List.all_eq_true.mp (show (tb_ci_RX1.all fun q => tv_in (Cond.constant RX1 q.1 (Int32.ofInt q.2)) && ai_ir q.2 q.2) = true by decide +kernel) q h
  rw [Bool.and_eq_true] at h1
  exact ⟨tv_mem h1.1, h1.2⟩
theorem tv_cl_RX1 : ∀ q ∈ tb_cl_RX1, Cond.constantLong RX1 q.1 (Int64.ofInt q.2) ∈ ai_GT ∧ (Int64.ofInt q.2).toInt = q.2 := fun q h => by
  have h1 := List.all_eq_true.mp (show (tb_cl_RX1.all fun q => tv_in (Cond.constantLong RX1 q.1 (Int64.ofInt q.2)) && decide ((Int64.ofInt q.2).toInt = q.2)) = true by decide +kernel) q h
  rw [Bool.and_eq_true, decide_eq_true_eq] at h1
  exact ⟨tv_mem h1.1, h1.2⟩
theorem tv_fl_RX2 : ∀ q ∈ tb_fl_RX2, ai_flok RX2 q.2.1 q.2.2 q.1 := fun q h => tv_fl_ok (List.all_eq_true.mp (show (tb_fl_RX2.all (tv_fl RX2)) = true by decide +kernel) q h)
theorem tv_fp_RX2 : ∀ q ∈ tb_fp_RX2, ai_fpok RX2 q.2.1 q.2.2.1 q.1 q.2.2.2 := fun q h => tv_fp_ok (List.all_eq_true.mp (show (tb_fp_RX2.all (tv_fp RX2)) = true by decide +kernel) q h)
theorem tv_ci_RX2 : ∀ q ∈ tb_ci_RX2, Cond.constant RX2 q.1 (Int32.ofInt q.2) ∈ ai_GT ∧ ai_ir q.2 q.2 = true := fun q h => by
  have h1 := List.all_eq_true.mp (show (tb_ci_RX2.all fun q => tv_in (Cond.constant RX2 q.1 (Int32.ofInt q.2)) && ai_ir q.2 q.2) = true by decide +kernel) q h
  rw [Bool.and_eq_true] at h1
  exact ⟨tv_mem h1.1, h1.2⟩
theorem tv_cl_RX2 : ∀ q ∈ tb_cl_RX2, Cond.constantLong RX2 q.1 (Int64.ofInt q.2) ∈ ai_GT ∧ (Int64.ofInt q.2).toInt = q.2 := fun q h => by
  have h1 := List.all_eq_true.mp (show (tb_cl_RX2.all fun q => tv_in (Cond.constantLong RX2 q.1 (Int64.ofInt q.2)) && decide ((Int64.ofInt q.2).toInt = q.2)) = true by decide +kernel) q h
  rw [Bool.and_eq_true, decide_eq_true_eq] at h1
  exact ⟨tv_mem h1.1, h1.2⟩
theorem tv_fl_RX3 : ∀ q ∈ tb_fl_RX3, ai_flok RX3 q.2.1 q.2.2 q.1 := fun q h => tv_fl_ok (List.all_eq_true.mp (show (tb_fl_RX3.all (tv_fl RX3)) = true by decide +kernel) q h)
theorem tv_fp_RX3 : ∀ q ∈ tb_fp_RX3, ai_fpok RX3 q.2.1 q.2.2.1 q.1 q.2.2.2 := fun q h => tv_fp_ok (List.all_eq_true.mp (show (tb_fp_RX3.all (tv_fp RX3)) = true by decide +kernel) q h)
theorem tv_ci_RX3 : ∀ q ∈ tb_ci_RX3, Cond.constant RX3 q.1 (Int32.ofInt q.2) ∈ ai_GT ∧ ai_ir q.2 q.2 = true := fun q h => by
  have h1 := List.all_eq_true.mp (show (tb_ci_RX3.all fun q => tv_in (Cond.constant RX3 q.1 (Int32.ofInt q.2)) && ai_ir q.2 q.2) = true by decide +kernel) q h
  rw [Bool.and_eq_true] at h1
  exact ⟨tv_mem h1.1, h1.2⟩
theorem tv_cl_RX3 : ∀ q ∈ tb_cl_RX3, Cond.constantLong RX3 q.1 (Int64.ofInt q.2) ∈ ai_GT ∧ (Int64.ofInt q.2).toInt = q.2 := fun q h => by
  have h1 := List.all_eq_true.mp (show (tb_cl_RX3.all fun q => tv_in (Cond.constantLong RX3 q.1 (Int64.ofInt q.2)) && decide ((Int64.ofInt q.2).toInt = q.2)) = true by decide +kernel) q h
  rw [Bool.and_eq_true, decide_eq_true_eq] at h1
  exact ⟨tv_mem h1.1, h1.2⟩
theorem tv_fl_RX4 : ∀ q ∈ tb_fl_RX4, ai_flok RX4 q.2.1 q.2.2 q.1 := fun q h => tv_fl_ok (List.all_eq_true.mp (show (tb_fl_RX4.all (tv_fl RX4)) = true by decide +kernel) q h)
theorem tv_fp_RX4 : ∀ q ∈ tb_fp_RX4, ai_fpok RX4 q.2.1 q.2.2.1 q.1 q.2.2.2 := fun q h => tv_fp_ok (List.all_eq_true.mp (show (tb_fp_RX4.all (tv_fp RX4)) = true by decide +kernel) q h)
theorem tv_ci_RX4 : ∀ q ∈ tb_ci_RX4, Cond.constant RX4 q.1 (Int32.ofInt q.2) ∈ ai_GT ∧ ai_ir q.2 q.2 = true := fun q h => by
  have h1 := List.all_eq_true.mp (show (tb_ci_RX4.all fun q => tv_in (Cond.constant RX4 q.1 (Int32.ofInt q.2)) && ai_ir q.2 q.2) = true by decide +kernel) q h
  rw [Bool.and_eq_true] at h1
  exact ⟨tv_mem h1.1, h1.2⟩
theorem tv_cl_RX4 : ∀ q ∈ tb_cl_RX4, Cond.constantLong RX4 q.1 (Int64.ofInt q.2) ∈ ai_GT ∧ (Int64.ofInt q.2).toInt = q.2 := fun q h => by
  have h1 := List.all_eq_true.mp (show (tb_cl_RX4.all fun q => tv_in (Cond.constantLong RX4 q.1 (Int64.ofInt q.2)) && decide ((Int64.ofInt q.2).toInt = q.2)) = true by decide +kernel) q h
  rw [Bool.and_eq_true, decide_eq_true_eq] at h1
  exact ⟨tv_mem h1.1, h1.2⟩
theorem tv_fl_RX5 : ∀ q ∈ tb_fl_RX5, ai_flok RX5 q.2.1 q.2.2 q.1 := fun q h => tv_fl_ok (List.all_eq_true.mp (show (tb_fl_RX5.all (tv_fl RX5)) = true by decide +kernel) q h)
theorem tv_fp_RX5 : ∀ q ∈ tb_fp_RX5, ai_fpok RX5 q.2.1 q.2.2.1 q.1 q.2.2.2 := fun q h => tv_fp_ok (List.all_eq_true.mp (show (tb_fp_RX5.all (tv_fp RX5)) = true by decide +kernel) q h)
theorem tv_ci_RX5 : ∀ q ∈ tb_ci_RX5, Cond.constant RX5 q.1 (Int32.ofInt q.2) ∈ ai_GT ∧ ai_ir q.2 q.2 = true := fun q h => by
  have h1 := List.all_eq_true.mp (show (tb_ci_RX5.all fun q => tv_in (Cond.constant RX5 q.1 (Int32.ofInt q.2)) && ai_ir q.2 q.2) = true by decide +kernel) q h
  rw [Bool.and_eq_true] at h1
  exact ⟨tv_mem h1.1, h1.2⟩
theorem tv_cl_RX5 : ∀ q ∈ tb_cl_RX5, Cond.constantLong RX5 q.1 (Int64.ofInt q.2) ∈ ai_GT ∧ (Int64.ofInt q.2).toInt = q.2 := fun q h => by
  have h1 := List.all_eq_true.mp (show (tb_cl_RX5.all fun q => tv_in (Cond.constantLong RX5 q.1 (Int64.ofInt q.2)) && decide ((Int64.ofInt q.2).toInt = q.2)) = true by decide +kernel) q h
  rw [Bool.and_eq_true, decide_eq_true_eq] at h1
  exact ⟨tv_mem h1.1, h1.2⟩
theorem tv_fl_RX6 : ∀ q ∈ tb_fl_RX6, ai_flok RX6 q.2.1 q.2.2 q.1 := fun q h => tv_fl_ok (List.all_eq_true.mp (show (tb_fl_RX6.all (tv_fl RX6)) = true by decide +kernel) q h)
theorem tv_fp_RX6 : ∀ q ∈ tb_fp_RX6, ai_fpok RX6 q.2.1 q.2.2.1 q.1 q.2.2.2 := fun q h => tv_fp_ok (List.all_eq_true.mp (show (tb_fp_RX6.all (tv_fp RX6)) = true by decide +kernel) q h)
theorem tv_ci_RX6 : ∀ q ∈ tb_ci_RX6, Cond.constant RX6 q.1 (Int32.ofInt q.2) ∈ ai_GT ∧ ai_ir q.2 q.2 = true := fun q h => by
  have h1 := List.all_eq_true.mp (show (tb_ci_RX6.all fun q => tv_in (Cond.constant RX6 q.1 (Int32.ofInt q.2)) && ai_ir q.2 q.2) = true by decide +kernel) q h
  rw [Bool.and_eq_true] at h1
  exact ⟨tv_mem h1.1, h1.2⟩
theorem tv_cl_RX6 : ∀ q ∈ tb_cl_RX6, Cond.constantLong RX6 q.1 (Int64.ofInt q.2) ∈ ai_GT ∧ (Int64.ofInt q.2).toInt = q.2 := fun q h => by
  have h1 := List.all_eq_true.mp (show (tb_cl_RX6.all fun q => tv_in (Cond.constantLong RX6 q.1 (Int64.ofInt q.2)) && decide ((Int64.ofInt q.2).toInt = q.2)) = true by decide +kernel) q h
  rw [Bool.and_eq_true, decide_eq_true_eq] at h1
  exact ⟨tv_mem h1.1, h1.2⟩
theorem tv_fl_RL : ∀ q ∈ tb_fl_RL, ai_flok RL q.2.1 q.2.2 q.1 := fun q h => tv_fl_ok (List.all_eq_true.mp (show (tb_fl_RL.all (tv_fl RL)) = true by decide +kernel) q h)
theorem tv_fp_RL : ∀ q ∈ tb_fp_RL, ai_fpok RL q.2.1 q.2.2.1 q.1 q.2.2.2 := fun q h => tv_fp_ok (List.all_eq_true.mp (show (tb_fp_RL.all (tv_fp RL)) = true by decide +kernel) q h)
theorem tv_ci_RL : ∀ q ∈ tb_ci_RL, Cond.constant RL q.1 (Int32.ofInt q.2) ∈ ai_GT ∧ ai_ir q.2 q.2 = true := fun q h => by
  have h1 := List.all_eq_true.mp (show (tb_ci_RL.all fun q => tv_in (Cond.constant RL q.1 (Int32.ofInt q.2)) && ai_ir q.2 q.2) = true by decide +kernel) q h
  rw [Bool.and_eq_true] at h1
  exact ⟨tv_mem h1.1, h1.2⟩
theorem tv_cl_RL : ∀ q ∈ tb_cl_RL, Cond.constantLong RL q.1 (Int64.ofInt q.2) ∈ ai_GT ∧ (Int64.ofInt q.2).toInt = q.2 := fun q h => by
  have h1 := List.all_eq_true.mp (show (tb_cl_RL.all fun q => tv_in (Cond.constantLong RL q.1 (Int64.ofInt q.2)) && decide ((Int64.ofInt q.2).toInt = q.2)) = true by decide +kernel) q h
  rw [Bool.and_eq_true, decide_eq_true_eq] at h1
  exact ⟨tv_mem h1.1, h1.2⟩
theorem tv_fl_RJ6 : ∀ q ∈ tb_fl_RJ6, ai_flok RJ6 q.2.1 q.2.2 q.1 := fun q h => tv_fl_ok (List.all_eq_true.mp (show (tb_fl_RJ6.all (tv_fl RJ6)) = true by decide +kernel) q h)
theorem tv_fp_RJ6 : ∀ q ∈ tb_fp_RJ6, ai_fpok RJ6 q.2.1 q.2.2.1 q.1 q.2.2.2 := fun q h => tv_fp_ok (List.all_eq_true.mp (show (tb_fp_RJ6.all (tv_fp RJ6)) = true by decide +kernel) q h)
theorem tv_ci_RJ6 : ∀ q ∈ tb_ci_RJ6, Cond.constant RJ6 q.1 (Int32.ofInt q.2) ∈ ai_GT ∧ ai_ir q.2 q.2 = true := fun q h => by
  have h1 := List.all_eq_true.mp (show (tb_ci_RJ6.all fun q => tv_in (Cond.constant RJ6 q.1 (Int32.ofInt q.2)) && ai_ir q.2 q.2) = true by decide +kernel) q h
  rw [Bool.and_eq_true] at h1
  exact ⟨tv_mem h1.1, h1.2⟩
theorem tv_cl_RJ6 : ∀ q ∈ tb_cl_RJ6, Cond.constantLong RJ6 q.1 (Int64.ofInt q.2) ∈ ai_GT ∧ (Int64.ofInt q.2).toInt = q.2 := fun q h => by
  have h1 := List.all_eq_true.mp (show (tb_cl_RJ6.all fun q => tv_in (Cond.constantLong RJ6 q.1 (Int64.ofInt q.2)) && decide ((Int64.ofInt q.2).toInt = q.2)) = true by decide +kernel) q h
  rw [Bool.and_eq_true, decide_eq_true_eq] at h1
  exact ⟨tv_mem h1.1, h1.2⟩
end
section
/-! calls, by their words' places -/
def tw_at (i : Nat) (w : Cond) : Bool := goodWord w && decide (lw_tbl[i]? = some w)
theorem tw_mem {i : Nat} {w : Cond} (h : tw_at i w = true) : w ∈ ai_GT := by
  unfold tw_at at h
  rw [Bool.and_eq_true, decide_eq_true_eq] at h
  exact List.mem_filter.mpr ⟨List.mem_of_getElem? h.2, h.1⟩
def tw_l (MT : List ai_m) (own : String) (q : ai_l5) (a b c d : Nat) : Bool := match q.2.1 with
  | 0 => (match MT[q.2.2.1]?, vwCl[q.2.2.2.2]? with
    | some M', some r => decide (M'.2.2.2.2.1 = false) && decide (M'.1.cls = r.1) && tw_at a (.methodLink own q.1 M'.1) && tw_at b (.instanceMethod M'.1) && tw_at c (.selects r.1 M'.1 M'.1) && tw_at d (.initialized r.1) && tv_y M'.1 q.2.2.2.1
    | _, _ => false)
  | 1 => (match MT[q.2.2.1]? with
    | some M' => decide (M'.2.2.2.2.1 = false) && tw_at a (.methodLink own q.1 M'.1) && tw_at b (.static M'.1) && tw_at c (.initialized M'.1.cls) && tv_y M'.1 q.2.2.2.1
    | none => false)
  | 2 => (match MT[q.2.2.1]? with
    | some M' => decide (M'.2.2.2.2.1 = false) && decide (lw_tbl[a]? = some (Cond.methodLinkNest own q.1 M'.1 "HornTests")) && tw_at b (.static M'.1) && tw_at c (.initialized M'.1.cls) && tv_y M'.1 q.2.2.2.1
    | none => false)
  | 3 => tw_at a (.methodLink own q.1 Lib.Math.min.name) && tw_at b (.static Lib.Math.min.name) && tw_at c (.initialized "java/lang/Math")
  | 4 => tw_at a (.methodLink own q.1 Lib.Math.max.name) && tw_at b (.static Lib.Math.max.name) && tw_at c (.initialized "java/lang/Math")
  | _ => tw_at a (.methodLink own q.1 arraycopyName) && tw_at b (.static arraycopyName) && tw_at c (.initialized "java/lang/System") && tw_at d (.native arraycopyName)
set_option maxRecDepth 100000 in
theorem tw_min : Cond.code Lib.Math.min.name Lib.Math.min.code 2 (some .int) ∈ ai_GT := List.mem_filter.mpr ⟨List.mem_of_getElem? (i := 516) rfl, rfl⟩
set_option maxRecDepth 100000 in
theorem tw_max : Cond.code Lib.Math.max.name Lib.Math.max.code 2 (some .int) ∈ ai_GT := List.mem_filter.mpr ⟨List.mem_of_getElem? (i := 468) rfl, rfl⟩
theorem tw_l_ok {MT : List ai_m} (hC : ∀ M ∈ MT, M.2.2.2.2.1 = false → Cond.code M.1 M.2.1 M.2.2.1 M.2.2.2.1 ∈ ai_GT) {own : String} {q : ai_l5} {a b c d : Nat} (h : tw_l MT own q a b c d = true) : ai_lok MT own q := by
  unfold tw_l at h
  unfold ai_lok
  split at h
  · rename_i hk
    rw [hk]
    split at h
    · rename_i M' r h1 h2
      simp only [Bool.and_eq_true, decide_eq_true_eq] at h
      obtain ⟨⟨⟨⟨⟨⟨a0, a1⟩, a2⟩, a3⟩, a4⟩, a5⟩, a7⟩ := h
      refine ⟨M', r, h1, h2, tv_good fun w hw => ?_, a1, tv_y_ok a7⟩
      unfold wsV at hw
      rcases List.mem_append.mp hw with hw | hw
      · simp only [List.mem_cons, List.not_mem_nil, or_false] at hw
        rcases hw with rfl | rfl | rfl | rfl
        · exact tw_mem a2
        · exact tw_mem a3
        · exact tw_mem a4
        · exact tw_mem a5
      · rcases List.mem_cons.mp hw with rfl | hw
        · exact hC M' (List.mem_of_getElem? h1) a0
        · exact hw
    · cases h
  · rename_i hk
    rw [hk]
    split at h
    · rename_i M' h1
      simp only [Bool.and_eq_true, decide_eq_true_eq] at h
      obtain ⟨⟨⟨⟨a0, a2⟩, a3⟩, a5⟩, a7⟩ := h
      refine ⟨M', h1, tv_good fun w hw => ?_, tv_y_ok a7⟩
      unfold va_wsS at hw
      rcases List.mem_append.mp hw with hw | hw
      · simp only [List.mem_cons, List.not_mem_nil, or_false] at hw
        rcases hw with rfl | rfl | rfl
        · exact tw_mem a2
        · exact tw_mem a3
        · exact tw_mem a5
      · rcases List.mem_cons.mp hw with rfl | hw
        · exact hC M' (List.mem_of_getElem? h1) a0
        · exact hw
    · cases h
  · rename_i hk
    rw [hk]
    split at h
    · rename_i M' h1
      simp only [Bool.and_eq_true, decide_eq_true_eq] at h
      obtain ⟨⟨⟨⟨a0, a2⟩, a3⟩, a5⟩, a7⟩ := h
      exact ⟨M', "HornTests", h1, List.mem_filter.mpr ⟨List.mem_of_getElem? a2, rfl⟩, ai_goodIn (hC M' (List.mem_of_getElem? h1) a0), tw_mem a3, tw_mem a5, tv_y_ok a7⟩
    · cases h
  · rename_i hk
    rw [hk]
    simp only [Bool.and_eq_true] at h
    exact ⟨tw_mem h.1.1, tw_mem h.1.2, tw_mem h.2, tw_min⟩
  · rename_i hk
    rw [hk]
    simp only [Bool.and_eq_true] at h
    exact ⟨tw_mem h.1.1, tw_mem h.1.2, tw_mem h.2, tw_max⟩
  · rename_i k0 k1 k2 k3 k4
    simp only [Bool.and_eq_true] at h
    have hres : Cond.methodLink own q.1 arraycopyName ∈ ai_GT ∧ Cond.native arraycopyName ∈ ai_GT ∧ Cond.static arraycopyName ∈ ai_GT ∧ Cond.initialized "java/lang/System" ∈ ai_GT := ⟨tw_mem h.1.1.1, tw_mem h.2, tw_mem h.1.1.2, tw_mem h.1.2⟩
    have hz5 : 5 ≤ q.2.1 := by
      rcases Nat.lt_or_ge q.2.1 5 with h5 | h5
      · exfalso
        have h6 : q.2.1 = 0 ∨ q.2.1 = 1 ∨ q.2.1 = 2 ∨ q.2.1 = 3 ∨ q.2.1 = 4 := by omega
        rcases h6 with e | e | e | e | e <;> first | exact k0 e | exact k1 e | exact k2 e | exact k3 e | exact k4 e
      · exact h5
    obtain ⟨z, hz⟩ : ∃ z, q.2.1 = z + 5 := ⟨q.2.1 - 5, by omega⟩
    rw [hz]
    exact hres
set_option maxRecDepth 100000 in
theorem tw_c0 : Cond.code tb_m0.1 tb_m0.2.1 tb_m0.2.2.1 tb_m0.2.2.2.1 ∈ ai_GT := List.mem_filter.mpr ⟨List.mem_of_getElem? (i := 299) rfl, rfl⟩
set_option maxRecDepth 100000 in
theorem tw_c1 : Cond.code tb_m1.1 tb_m1.2.1 tb_m1.2.2.1 tb_m1.2.2.2.1 ∈ ai_GT := List.mem_filter.mpr ⟨List.mem_of_getElem? (i := 425) rfl, rfl⟩
set_option maxRecDepth 100000 in
theorem tw_c2 : Cond.code tb_m2.1 tb_m2.2.1 tb_m2.2.2.1 tb_m2.2.2.2.1 ∈ ai_GT := List.mem_filter.mpr ⟨List.mem_of_getElem? (i := 421) rfl, rfl⟩
set_option maxRecDepth 100000 in
theorem tw_c3 : Cond.code tb_m3.1 tb_m3.2.1 tb_m3.2.2.1 tb_m3.2.2.2.1 ∈ ai_GT := List.mem_filter.mpr ⟨List.mem_of_getElem? (i := 402) rfl, rfl⟩
set_option maxRecDepth 100000 in
theorem tw_c4 : Cond.code tb_m4.1 tb_m4.2.1 tb_m4.2.2.1 tb_m4.2.2.2.1 ∈ ai_GT := List.mem_filter.mpr ⟨List.mem_of_getElem? (i := 445) rfl, rfl⟩
set_option maxRecDepth 100000 in
theorem tw_c5 : Cond.code tb_m5.1 tb_m5.2.1 tb_m5.2.2.1 tb_m5.2.2.2.1 ∈ ai_GT := List.mem_filter.mpr ⟨List.mem_of_getElem? (i := 441) rfl, rfl⟩
set_option maxRecDepth 100000 in
theorem tw_c6 : Cond.code tb_m6.1 tb_m6.2.1 tb_m6.2.2.1 tb_m6.2.2.2.1 ∈ ai_GT := List.mem_filter.mpr ⟨List.mem_of_getElem? (i := 579) rfl, rfl⟩
set_option maxRecDepth 100000 in
theorem tw_c7 : Cond.code tb_m7.1 tb_m7.2.1 tb_m7.2.2.1 tb_m7.2.2.2.1 ∈ ai_GT := List.mem_filter.mpr ⟨List.mem_of_getElem? (i := 449) rfl, rfl⟩
set_option maxRecDepth 100000 in
theorem tw_c8 : Cond.code tb_m8.1 tb_m8.2.1 tb_m8.2.2.1 tb_m8.2.2.2.1 ∈ ai_GT := List.mem_filter.mpr ⟨List.mem_of_getElem? (i := 750) rfl, rfl⟩
set_option maxRecDepth 100000 in
theorem tw_c9 : Cond.code tb_m9.1 tb_m9.2.1 tb_m9.2.2.1 tb_m9.2.2.2.1 ∈ ai_GT := List.mem_filter.mpr ⟨List.mem_of_getElem? (i := 754) rfl, rfl⟩
set_option maxRecDepth 100000 in
theorem tw_c10 : Cond.code tb_m10.1 tb_m10.2.1 tb_m10.2.2.1 tb_m10.2.2.2.1 ∈ ai_GT := List.mem_filter.mpr ⟨List.mem_of_getElem? (i := 453) rfl, rfl⟩
set_option maxRecDepth 100000 in
theorem tw_c11 : Cond.code tb_m11.1 tb_m11.2.1 tb_m11.2.2.1 tb_m11.2.2.2.1 ∈ ai_GT := List.mem_filter.mpr ⟨List.mem_of_getElem? (i := 462) rfl, rfl⟩
set_option maxRecDepth 100000 in
theorem tw_c12 : Cond.code tb_m12.1 tb_m12.2.1 tb_m12.2.2.1 tb_m12.2.2.2.1 ∈ ai_GT := List.mem_filter.mpr ⟨List.mem_of_getElem? (i := 507) rfl, rfl⟩
set_option maxRecDepth 100000 in
theorem tw_c13 : Cond.code tb_m13.1 tb_m13.2.1 tb_m13.2.2.1 tb_m13.2.2.2.1 ∈ ai_GT := List.mem_filter.mpr ⟨List.mem_of_getElem? (i := 512) rfl, rfl⟩
set_option maxRecDepth 100000 in
theorem tw_c14 : Cond.code tb_m14.1 tb_m14.2.1 tb_m14.2.2.1 tb_m14.2.2.2.1 ∈ ai_GT := List.mem_filter.mpr ⟨List.mem_of_getElem? (i := 524) rfl, rfl⟩
set_option maxRecDepth 100000 in
theorem tw_c15 : Cond.code tb_m15.1 tb_m15.2.1 tb_m15.2.2.1 tb_m15.2.2.2.1 ∈ ai_GT := List.mem_filter.mpr ⟨List.mem_of_getElem? (i := 536) rfl, rfl⟩
set_option maxRecDepth 100000 in
theorem tw_c16 : Cond.code tb_m16.1 tb_m16.2.1 tb_m16.2.2.1 tb_m16.2.2.2.1 ∈ ai_GT := List.mem_filter.mpr ⟨List.mem_of_getElem? (i := 532) rfl, rfl⟩
set_option maxRecDepth 100000 in
theorem tw_c17 : Cond.code tb_m17.1 tb_m17.2.1 tb_m17.2.2.1 tb_m17.2.2.2.1 ∈ ai_GT := List.mem_filter.mpr ⟨List.mem_of_getElem? (i := 551) rfl, rfl⟩
set_option maxRecDepth 100000 in
theorem tw_c18 : Cond.code tb_m18.1 tb_m18.2.1 tb_m18.2.2.1 tb_m18.2.2.2.1 ∈ ai_GT := List.mem_filter.mpr ⟨List.mem_of_getElem? (i := 619) rfl, rfl⟩
set_option maxRecDepth 100000 in
theorem tw_c19 : Cond.code tb_m19.1 tb_m19.2.1 tb_m19.2.2.1 tb_m19.2.2.2.1 ∈ ai_GT := List.mem_filter.mpr ⟨List.mem_of_getElem? (i := 624) rfl, rfl⟩
set_option maxRecDepth 100000 in
theorem tw_c20 : Cond.code tb_m20.1 tb_m20.2.1 tb_m20.2.2.1 tb_m20.2.2.2.1 ∈ ai_GT := List.mem_filter.mpr ⟨List.mem_of_getElem? (i := 630) rfl, rfl⟩
set_option maxRecDepth 100000 in
theorem tw_c21 : Cond.code tb_m21.1 tb_m21.2.1 tb_m21.2.2.1 tb_m21.2.2.2.1 ∈ ai_GT := List.mem_filter.mpr ⟨List.mem_of_getElem? (i := 646) rfl, rfl⟩
set_option maxRecDepth 100000 in
theorem tw_c22 : Cond.code tb_m22.1 tb_m22.2.1 tb_m22.2.2.1 tb_m22.2.2.2.1 ∈ ai_GT := List.mem_filter.mpr ⟨List.mem_of_getElem? (i := 634) rfl, rfl⟩
set_option maxRecDepth 100000 in
theorem tw_c23 : Cond.code tb_m23.1 tb_m23.2.1 tb_m23.2.2.1 tb_m23.2.2.2.1 ∈ ai_GT := List.mem_filter.mpr ⟨List.mem_of_getElem? (i := 637) rfl, rfl⟩
set_option maxRecDepth 100000 in
theorem tw_c24 : Cond.code tb_m24.1 tb_m24.2.1 tb_m24.2.2.1 tb_m24.2.2.2.1 ∈ ai_GT := List.mem_filter.mpr ⟨List.mem_of_getElem? (i := 283) rfl, rfl⟩
set_option maxRecDepth 100000 in
theorem tw_c25 : Cond.code tb_m25.1 tb_m25.2.1 tb_m25.2.2.1 tb_m25.2.2.2.1 ∈ ai_GT := List.mem_filter.mpr ⟨List.mem_of_getElem? (i := 295) rfl, rfl⟩
set_option maxRecDepth 100000 in
theorem tw_c26 : Cond.code tb_m26.1 tb_m26.2.1 tb_m26.2.2.1 tb_m26.2.2.2.1 ∈ ai_GT := List.mem_filter.mpr ⟨List.mem_of_getElem? (i := 316) rfl, rfl⟩
set_option maxRecDepth 100000 in
theorem tw_c27 : Cond.code tb_m27.1 tb_m27.2.1 tb_m27.2.2.1 tb_m27.2.2.2.1 ∈ ai_GT := List.mem_filter.mpr ⟨List.mem_of_getElem? (i := 394) rfl, rfl⟩
set_option maxRecDepth 100000 in
theorem tw_c28 : Cond.code tb_m28.1 tb_m28.2.1 tb_m28.2.2.1 tb_m28.2.2.2.1 ∈ ai_GT := List.mem_filter.mpr ⟨List.mem_of_getElem? (i := 406) rfl, rfl⟩
set_option maxRecDepth 100000 in
theorem tw_c29 : Cond.code tb_m29.1 tb_m29.2.1 tb_m29.2.2.1 tb_m29.2.2.2.1 ∈ ai_GT := List.mem_filter.mpr ⟨List.mem_of_getElem? (i := 413) rfl, rfl⟩
set_option maxRecDepth 100000 in
theorem tw_c30 : Cond.code tb_m30.1 tb_m30.2.1 tb_m30.2.2.1 tb_m30.2.2.2.1 ∈ ai_GT := List.mem_filter.mpr ⟨List.mem_of_getElem? (i := 417) rfl, rfl⟩
set_option maxRecDepth 100000 in
theorem tw_c31 : Cond.code tb_m31.1 tb_m31.2.1 tb_m31.2.2.1 tb_m31.2.2.2.1 ∈ ai_GT := List.mem_filter.mpr ⟨List.mem_of_getElem? (i := 398) rfl, rfl⟩
set_option maxRecDepth 100000 in
theorem tw_c32 : Cond.code tb_m32.1 tb_m32.2.1 tb_m32.2.2.1 tb_m32.2.2.2.1 ∈ ai_GT := List.mem_filter.mpr ⟨List.mem_of_getElem? (i := 386) rfl, rfl⟩
set_option maxRecDepth 100000 in
theorem tw_c33 : Cond.code tb_m33.1 tb_m33.2.1 tb_m33.2.2.1 tb_m33.2.2.2.1 ∈ ai_GT := List.mem_filter.mpr ⟨List.mem_of_getElem? (i := 390) rfl, rfl⟩
set_option maxRecDepth 100000 in
theorem tw_c34 : Cond.code tb_m34.1 tb_m34.2.1 tb_m34.2.2.1 tb_m34.2.2.2.1 ∈ ai_GT := List.mem_filter.mpr ⟨List.mem_of_getElem? (i := 303) rfl, rfl⟩
set_option maxRecDepth 100000 in
theorem tw_c35 : Cond.code tb_m35.1 tb_m35.2.1 tb_m35.2.2.1 tb_m35.2.2.2.1 ∈ ai_GT := List.mem_filter.mpr ⟨List.mem_of_getElem? (i := 307) rfl, rfl⟩
set_option maxRecDepth 100000 in
theorem tw_c36 : Cond.code tb_m36.1 tb_m36.2.1 tb_m36.2.2.1 tb_m36.2.2.2.1 ∈ ai_GT := List.mem_filter.mpr ⟨List.mem_of_getElem? (i := 312) rfl, rfl⟩
set_option maxRecDepth 100000 in
theorem tw_c37 : Cond.code tb_m37.1 tb_m37.2.1 tb_m37.2.2.1 tb_m37.2.2.2.1 ∈ ai_GT := List.mem_filter.mpr ⟨List.mem_of_getElem? (i := 320) rfl, rfl⟩
set_option maxRecDepth 100000 in
theorem tw_c38 : Cond.code tb_m38.1 tb_m38.2.1 tb_m38.2.2.1 tb_m38.2.2.2.1 ∈ ai_GT := List.mem_filter.mpr ⟨List.mem_of_getElem? (i := 708) rfl, rfl⟩
set_option maxRecDepth 100000 in
theorem tw_c39 : Cond.code tb_m39.1 tb_m39.2.1 tb_m39.2.2.1 tb_m39.2.2.2.1 ∈ ai_GT := List.mem_filter.mpr ⟨List.mem_of_getElem? (i := 724) rfl, rfl⟩
set_option maxRecDepth 100000 in
theorem tw_c40 : Cond.code tb_m40.1 tb_m40.2.1 tb_m40.2.2.1 tb_m40.2.2.2.1 ∈ ai_GT := List.mem_filter.mpr ⟨List.mem_of_getElem? (i := 712) rfl, rfl⟩
set_option maxRecDepth 100000 in
theorem tw_c41 : Cond.code tb_m41.1 tb_m41.2.1 tb_m41.2.2.1 tb_m41.2.2.2.1 ∈ ai_GT := List.mem_filter.mpr ⟨List.mem_of_getElem? (i := 720) rfl, rfl⟩
set_option maxRecDepth 100000 in
theorem tw_c42 : Cond.code tb_m42.1 tb_m42.2.1 tb_m42.2.2.1 tb_m42.2.2.2.1 ∈ ai_GT := List.mem_filter.mpr ⟨List.mem_of_getElem? (i := 736) rfl, rfl⟩
set_option maxRecDepth 100000 in
theorem tw_c43 : Cond.code tb_m43.1 tb_m43.2.1 tb_m43.2.2.1 tb_m43.2.2.2.1 ∈ ai_GT := List.mem_filter.mpr ⟨List.mem_of_getElem? (i := 728) rfl, rfl⟩
set_option maxRecDepth 100000 in
theorem tw_c44 : Cond.code tb_m44.1 tb_m44.2.1 tb_m44.2.2.1 tb_m44.2.2.2.1 ∈ ai_GT := List.mem_filter.mpr ⟨List.mem_of_getElem? (i := 654) rfl, rfl⟩
set_option maxRecDepth 100000 in
theorem tw_c45 : Cond.code tb_m45.1 tb_m45.2.1 tb_m45.2.2.1 tb_m45.2.2.2.1 ∈ ai_GT := List.mem_filter.mpr ⟨List.mem_of_getElem? (i := 666) rfl, rfl⟩
set_option maxRecDepth 100000 in
theorem tw_c46 : Cond.code tb_m46.1 tb_m46.2.1 tb_m46.2.2.1 tb_m46.2.2.2.1 ∈ ai_GT := List.mem_filter.mpr ⟨List.mem_of_getElem? (i := 276) rfl, rfl⟩
set_option maxRecDepth 100000 in
theorem tw_c47 : Cond.code tb_m47.1 tb_m47.2.1 tb_m47.2.2.1 tb_m47.2.2.2.1 ∈ ai_GT := List.mem_filter.mpr ⟨List.mem_of_getElem? (i := 287) rfl, rfl⟩
set_option maxRecDepth 100000 in
theorem tw_c48 : Cond.code tb_m48.1 tb_m48.2.1 tb_m48.2.2.1 tb_m48.2.2.2.1 ∈ ai_GT := List.mem_filter.mpr ⟨List.mem_of_getElem? (i := 291) rfl, rfl⟩
set_option maxRecDepth 100000 in
theorem tw_c49 : Cond.code tb_m49.1 tb_m49.2.1 tb_m49.2.2.1 tb_m49.2.2.2.1 ∈ ai_GT := List.mem_filter.mpr ⟨List.mem_of_getElem? (i := 433) rfl, rfl⟩
set_option maxRecDepth 100000 in
theorem tw_c50 : Cond.code tb_m50.1 tb_m50.2.1 tb_m50.2.2.1 tb_m50.2.2.2.1 ∈ ai_GT := List.mem_filter.mpr ⟨List.mem_of_getElem? (i := 437) rfl, rfl⟩
set_option maxRecDepth 100000 in
theorem tw_c51 : Cond.code tb_m51.1 tb_m51.2.1 tb_m51.2.2.1 tb_m51.2.2.2.1 ∈ ai_GT := List.mem_filter.mpr ⟨List.mem_of_getElem? (i := 457) rfl, rfl⟩
set_option maxRecDepth 100000 in
theorem tw_c52 : Cond.code tb_m52.1 tb_m52.2.1 tb_m52.2.2.1 tb_m52.2.2.2.1 ∈ ai_GT := List.mem_filter.mpr ⟨List.mem_of_getElem? (i := 472) rfl, rfl⟩
set_option maxRecDepth 100000 in
theorem tw_c53 : Cond.code tb_m53.1 tb_m53.2.1 tb_m53.2.2.1 tb_m53.2.2.2.1 ∈ ai_GT := List.mem_filter.mpr ⟨List.mem_of_getElem? (i := 476) rfl, rfl⟩
set_option maxRecDepth 100000 in
theorem tw_c54 : Cond.code tb_m54.1 tb_m54.2.1 tb_m54.2.2.1 tb_m54.2.2.2.1 ∈ ai_GT := List.mem_filter.mpr ⟨List.mem_of_getElem? (i := 483) rfl, rfl⟩
set_option maxRecDepth 100000 in
theorem tw_c55 : Cond.code tb_m55.1 tb_m55.2.1 tb_m55.2.2.1 tb_m55.2.2.2.1 ∈ ai_GT := List.mem_filter.mpr ⟨List.mem_of_getElem? (i := 479) rfl, rfl⟩
set_option maxRecDepth 100000 in
theorem tw_c56 : Cond.code tb_m56.1 tb_m56.2.1 tb_m56.2.2.1 tb_m56.2.2.2.1 ∈ ai_GT := List.mem_filter.mpr ⟨List.mem_of_getElem? (i := 487) rfl, rfl⟩
set_option maxRecDepth 100000 in
theorem tw_c57 : Cond.code tb_m57.1 tb_m57.2.1 tb_m57.2.2.1 tb_m57.2.2.2.1 ∈ ai_GT := List.mem_filter.mpr ⟨List.mem_of_getElem? (i := 491) rfl, rfl⟩
set_option maxRecDepth 100000 in
theorem tw_c58 : Cond.code tb_m58.1 tb_m58.2.1 tb_m58.2.2.1 tb_m58.2.2.2.1 ∈ ai_GT := List.mem_filter.mpr ⟨List.mem_of_getElem? (i := 495) rfl, rfl⟩
set_option maxRecDepth 100000 in
theorem tw_c59 : Cond.code tb_m59.1 tb_m59.2.1 tb_m59.2.2.1 tb_m59.2.2.2.1 ∈ ai_GT := List.mem_filter.mpr ⟨List.mem_of_getElem? (i := 499) rfl, rfl⟩
set_option maxRecDepth 100000 in
theorem tw_c60 : Cond.code tb_m60.1 tb_m60.2.1 tb_m60.2.2.1 tb_m60.2.2.2.1 ∈ ai_GT := List.mem_filter.mpr ⟨List.mem_of_getElem? (i := 503) rfl, rfl⟩
set_option maxRecDepth 100000 in
theorem tw_c61 : Cond.code tb_m61.1 tb_m61.2.1 tb_m61.2.2.1 tb_m61.2.2.2.1 ∈ ai_GT := List.mem_filter.mpr ⟨List.mem_of_getElem? (i := 520) rfl, rfl⟩
set_option maxRecDepth 100000 in
theorem tw_c62 : Cond.code tb_m62.1 tb_m62.2.1 tb_m62.2.2.1 tb_m62.2.2.2.1 ∈ ai_GT := List.mem_filter.mpr ⟨List.mem_of_getElem? (i := 528) rfl, rfl⟩
set_option maxRecDepth 100000 in
theorem tw_c63 : Cond.code tb_m63.1 tb_m63.2.1 tb_m63.2.2.1 tb_m63.2.2.2.1 ∈ ai_GT := List.mem_filter.mpr ⟨List.mem_of_getElem? (i := 543) rfl, rfl⟩
set_option maxRecDepth 100000 in
theorem tw_c64 : Cond.code tb_m64.1 tb_m64.2.1 tb_m64.2.2.1 tb_m64.2.2.2.1 ∈ ai_GT := List.mem_filter.mpr ⟨List.mem_of_getElem? (i := 547) rfl, rfl⟩
set_option maxRecDepth 100000 in
theorem tw_c65 : Cond.code tb_m65.1 tb_m65.2.1 tb_m65.2.2.1 tb_m65.2.2.2.1 ∈ ai_GT := List.mem_filter.mpr ⟨List.mem_of_getElem? (i := 555) rfl, rfl⟩
set_option maxRecDepth 100000 in
theorem tw_c66 : Cond.code tb_m66.1 tb_m66.2.1 tb_m66.2.2.1 tb_m66.2.2.2.1 ∈ ai_GT := List.mem_filter.mpr ⟨List.mem_of_getElem? (i := 558) rfl, rfl⟩
set_option maxRecDepth 100000 in
theorem tw_c67 : Cond.code tb_m67.1 tb_m67.2.1 tb_m67.2.2.1 tb_m67.2.2.2.1 ∈ ai_GT := List.mem_filter.mpr ⟨List.mem_of_getElem? (i := 562) rfl, rfl⟩
set_option maxRecDepth 100000 in
theorem tw_c68 : Cond.code tb_m68.1 tb_m68.2.1 tb_m68.2.2.1 tb_m68.2.2.2.1 ∈ ai_GT := List.mem_filter.mpr ⟨List.mem_of_getElem? (i := 566) rfl, rfl⟩
set_option maxRecDepth 100000 in
theorem tw_c69 : Cond.code tb_m69.1 tb_m69.2.1 tb_m69.2.2.1 tb_m69.2.2.2.1 ∈ ai_GT := List.mem_filter.mpr ⟨List.mem_of_getElem? (i := 570) rfl, rfl⟩
set_option maxRecDepth 100000 in
theorem tw_c70 : Cond.code tb_m70.1 tb_m70.2.1 tb_m70.2.2.1 tb_m70.2.2.2.1 ∈ ai_GT := List.mem_filter.mpr ⟨List.mem_of_getElem? (i := 574) rfl, rfl⟩
set_option maxRecDepth 100000 in
theorem tw_c71 : Cond.code tb_m71.1 tb_m71.2.1 tb_m71.2.2.1 tb_m71.2.2.2.1 ∈ ai_GT := List.mem_filter.mpr ⟨List.mem_of_getElem? (i := 590) rfl, rfl⟩
set_option maxRecDepth 100000 in
theorem tw_c72 : Cond.code tb_m72.1 tb_m72.2.1 tb_m72.2.2.1 tb_m72.2.2.2.1 ∈ ai_GT := List.mem_filter.mpr ⟨List.mem_of_getElem? (i := 594) rfl, rfl⟩
set_option maxRecDepth 100000 in
theorem tw_c73 : Cond.code tb_m73.1 tb_m73.2.1 tb_m73.2.2.1 tb_m73.2.2.2.1 ∈ ai_GT := List.mem_filter.mpr ⟨List.mem_of_getElem? (i := 598) rfl, rfl⟩
set_option maxRecDepth 100000 in
theorem tw_c74 : Cond.code tb_m74.1 tb_m74.2.1 tb_m74.2.2.1 tb_m74.2.2.2.1 ∈ ai_GT := List.mem_filter.mpr ⟨List.mem_of_getElem? (i := 602) rfl, rfl⟩
set_option maxRecDepth 100000 in
theorem tw_c75 : Cond.code tb_m75.1 tb_m75.2.1 tb_m75.2.2.1 tb_m75.2.2.2.1 ∈ ai_GT := List.mem_filter.mpr ⟨List.mem_of_getElem? (i := 606) rfl, rfl⟩
set_option maxRecDepth 100000 in
theorem tw_c76 : Cond.code tb_m76.1 tb_m76.2.1 tb_m76.2.2.1 tb_m76.2.2.2.1 ∈ ai_GT := List.mem_filter.mpr ⟨List.mem_of_getElem? (i := 610) rfl, rfl⟩
set_option maxRecDepth 100000 in
theorem tw_c77 : Cond.code tb_m77.1 tb_m77.2.1 tb_m77.2.2.1 tb_m77.2.2.2.1 ∈ ai_GT := List.mem_filter.mpr ⟨List.mem_of_getElem? (i := 642) rfl, rfl⟩
set_option maxRecDepth 100000 in
theorem tw_c78 : Cond.code tb_m78.1 tb_m78.2.1 tb_m78.2.2.1 tb_m78.2.2.2.1 ∈ ai_GT := List.mem_filter.mpr ⟨List.mem_of_getElem? (i := 614) rfl, rfl⟩
set_option maxRecDepth 100000 in
theorem tw_c79 : Cond.code tb_m79.1 tb_m79.2.1 tb_m79.2.2.1 tb_m79.2.2.2.1 ∈ ai_GT := List.mem_filter.mpr ⟨List.mem_of_getElem? (i := 650) rfl, rfl⟩
set_option maxRecDepth 100000 in
theorem tw_c80 : Cond.code tb_m80.1 tb_m80.2.1 tb_m80.2.2.1 tb_m80.2.2.2.1 ∈ ai_GT := List.mem_filter.mpr ⟨List.mem_of_getElem? (i := 658) rfl, rfl⟩
set_option maxRecDepth 100000 in
theorem tw_c81 : Cond.code tb_m81.1 tb_m81.2.1 tb_m81.2.2.1 tb_m81.2.2.2.1 ∈ ai_GT := List.mem_filter.mpr ⟨List.mem_of_getElem? (i := 662) rfl, rfl⟩
set_option maxRecDepth 100000 in
theorem tw_c82 : Cond.code tb_m82.1 tb_m82.2.1 tb_m82.2.2.1 tb_m82.2.2.2.1 ∈ ai_GT := List.mem_filter.mpr ⟨List.mem_of_getElem? (i := 674) rfl, rfl⟩
set_option maxRecDepth 100000 in
theorem tw_c83 : Cond.code tb_m83.1 tb_m83.2.1 tb_m83.2.2.1 tb_m83.2.2.2.1 ∈ ai_GT := List.mem_filter.mpr ⟨List.mem_of_getElem? (i := 678) rfl, rfl⟩
set_option maxRecDepth 100000 in
theorem tw_c84 : Cond.code tb_m84.1 tb_m84.2.1 tb_m84.2.2.1 tb_m84.2.2.2.1 ∈ ai_GT := List.mem_filter.mpr ⟨List.mem_of_getElem? (i := 684) rfl, rfl⟩
set_option maxRecDepth 100000 in
theorem tw_c85 : Cond.code tb_m85.1 tb_m85.2.1 tb_m85.2.2.1 tb_m85.2.2.2.1 ∈ ai_GT := List.mem_filter.mpr ⟨List.mem_of_getElem? (i := 688) rfl, rfl⟩
set_option maxRecDepth 100000 in
theorem tw_c86 : Cond.code tb_m86.1 tb_m86.2.1 tb_m86.2.2.1 tb_m86.2.2.2.1 ∈ ai_GT := List.mem_filter.mpr ⟨List.mem_of_getElem? (i := 693) rfl, rfl⟩
set_option maxRecDepth 100000 in
theorem tw_c87 : Cond.code tb_m87.1 tb_m87.2.1 tb_m87.2.2.1 tb_m87.2.2.2.1 ∈ ai_GT := List.mem_filter.mpr ⟨List.mem_of_getElem? (i := 701) rfl, rfl⟩
set_option maxRecDepth 100000 in
theorem tw_c88 : Cond.code tb_m88.1 tb_m88.2.1 tb_m88.2.2.1 tb_m88.2.2.2.1 ∈ ai_GT := List.mem_filter.mpr ⟨List.mem_of_getElem? (i := 697) rfl, rfl⟩
set_option maxRecDepth 100000 in
theorem tw_c89 : Cond.code tb_m89.1 tb_m89.2.1 tb_m89.2.2.1 tb_m89.2.2.2.1 ∈ ai_GT := List.mem_filter.mpr ⟨List.mem_of_getElem? (i := 705) rfl, rfl⟩
set_option maxRecDepth 100000 in
theorem tw_c90 : Cond.code tb_m90.1 tb_m90.2.1 tb_m90.2.2.1 tb_m90.2.2.2.1 ∈ ai_GT := List.mem_filter.mpr ⟨List.mem_of_getElem? (i := 716) rfl, rfl⟩
set_option maxRecDepth 100000 in
theorem tw_c91 : Cond.code tb_m91.1 tb_m91.2.1 tb_m91.2.2.1 tb_m91.2.2.2.1 ∈ ai_GT := List.mem_filter.mpr ⟨List.mem_of_getElem? (i := 732) rfl, rfl⟩
set_option maxRecDepth 100000 in
theorem tw_c92 : Cond.code tb_m92.1 tb_m92.2.1 tb_m92.2.2.1 tb_m92.2.2.2.1 ∈ ai_GT := List.mem_filter.mpr ⟨List.mem_of_getElem? (i := 741) rfl, rfl⟩
set_option maxRecDepth 100000 in
theorem tw_c93 : Cond.code tb_m93.1 tb_m93.2.1 tb_m93.2.2.1 tb_m93.2.2.2.1 ∈ ai_GT := List.mem_filter.mpr ⟨List.mem_of_getElem? (i := 745) rfl, rfl⟩
set_option maxRecDepth 100000 in
theorem tw_c94 : Cond.code tb_m94.1 tb_m94.2.1 tb_m94.2.2.1 tb_m94.2.2.2.1 ∈ ai_GT := List.mem_filter.mpr ⟨List.mem_of_getElem? (i := 279) rfl, rfl⟩
set_option maxRecDepth 100000 in
theorem tw_c95 : Cond.code tb_m95.1 tb_m95.2.1 tb_m95.2.2.1 tb_m95.2.2.2.1 ∈ ai_GT := List.mem_filter.mpr ⟨List.mem_of_getElem? (i := 409) rfl, rfl⟩
set_option maxRecDepth 100000 in
theorem tw_c96 : Cond.code tb_m96.1 tb_m96.2.1 tb_m96.2.2.1 tb_m96.2.2.2.1 ∈ ai_GT := List.mem_filter.mpr ⟨List.mem_of_getElem? (i := 465) rfl, rfl⟩
set_option maxRecDepth 100000 in
theorem tw_c97 : Cond.code tb_m97.1 tb_m97.2.1 tb_m97.2.2.1 tb_m97.2.2.2.1 ∈ ai_GT := List.mem_filter.mpr ⟨List.mem_of_getElem? (i := 669) rfl, rfl⟩
set_option maxRecDepth 100000 in
theorem tw_c98 : Cond.code tb_m98.1 tb_m98.2.1 tb_m98.2.2.1 tb_m98.2.2.2.1 ∈ ai_GT := List.mem_filter.mpr ⟨List.mem_of_getElem? (i := 844) rfl, rfl⟩
set_option maxRecDepth 100000 in
theorem tw_c99 : Cond.code tb_m99.1 tb_m99.2.1 tb_m99.2.2.1 tb_m99.2.2.2.1 ∈ ai_GT := List.mem_filter.mpr ⟨List.mem_of_getElem? (i := 840) rfl, rfl⟩
set_option maxRecDepth 100000 in
theorem tw_c100 : Cond.code tb_m100.1 tb_m100.2.1 tb_m100.2.2.1 tb_m100.2.2.2.1 ∈ ai_GT := List.mem_filter.mpr ⟨List.mem_of_getElem? (i := 848) rfl, rfl⟩
set_option maxRecDepth 100000 in
theorem tw_c101 : Cond.code tb_m101.1 tb_m101.2.1 tb_m101.2.2.1 tb_m101.2.2.2.1 ∈ ai_GT := List.mem_filter.mpr ⟨List.mem_of_getElem? (i := 860) rfl, rfl⟩
set_option maxRecDepth 100000 in
theorem tw_c102 : Cond.code tb_m102.1 tb_m102.2.1 tb_m102.2.2.1 tb_m102.2.2.2.1 ∈ ai_GT := List.mem_filter.mpr ⟨List.mem_of_getElem? (i := 868) rfl, rfl⟩
set_option maxRecDepth 100000 in
theorem tw_c103 : Cond.code tb_m103.1 tb_m103.2.1 tb_m103.2.2.1 tb_m103.2.2.2.1 ∈ ai_GT := List.mem_filter.mpr ⟨List.mem_of_getElem? (i := 876) rfl, rfl⟩
set_option maxRecDepth 100000 in
theorem tw_c104 : Cond.code tb_m104.1 tb_m104.2.1 tb_m104.2.2.1 tb_m104.2.2.2.1 ∈ ai_GT := List.mem_filter.mpr ⟨List.mem_of_getElem? (i := 856) rfl, rfl⟩
set_option maxRecDepth 100000 in
theorem tw_c105 : Cond.code tb_m105.1 tb_m105.2.1 tb_m105.2.2.1 tb_m105.2.2.2.1 ∈ ai_GT := List.mem_filter.mpr ⟨List.mem_of_getElem? (i := 885) rfl, rfl⟩
set_option maxRecDepth 100000 in
theorem tw_c106 : Cond.code tb_m106.1 tb_m106.2.1 tb_m106.2.2.1 tb_m106.2.2.2.1 ∈ ai_GT := List.mem_filter.mpr ⟨List.mem_of_getElem? (i := 889) rfl, rfl⟩
set_option maxRecDepth 100000 in
theorem tw_c107 : Cond.code tb_m107.1 tb_m107.2.1 tb_m107.2.2.1 tb_m107.2.2.2.1 ∈ ai_GT := List.mem_filter.mpr ⟨List.mem_of_getElem? (i := 881) rfl, rfl⟩
set_option maxRecDepth 100000 in
theorem tw_c108 : Cond.code tb_m108.1 tb_m108.2.1 tb_m108.2.2.1 tb_m108.2.2.2.1 ∈ ai_GT := List.mem_filter.mpr ⟨List.mem_of_getElem? (i := 872) rfl, rfl⟩
set_option maxRecDepth 100000 in
theorem tw_c109 : Cond.code tb_m109.1 tb_m109.2.1 tb_m109.2.2.1 tb_m109.2.2.2.1 ∈ ai_GT := List.mem_filter.mpr ⟨List.mem_of_getElem? (i := 852) rfl, rfl⟩
set_option maxRecDepth 100000 in
theorem tw_c110 : Cond.code tb_m110.1 tb_m110.2.1 tb_m110.2.2.1 tb_m110.2.2.2.1 ∈ ai_GT := List.mem_filter.mpr ⟨List.mem_of_getElem? (i := 893) rfl, rfl⟩
set_option maxRecDepth 100000 in
theorem tw_c111 : Cond.code tb_m111.1 tb_m111.2.1 tb_m111.2.2.1 tb_m111.2.2.2.1 ∈ ai_GT := List.mem_filter.mpr ⟨List.mem_of_getElem? (i := 921) rfl, rfl⟩
set_option maxRecDepth 100000 in
theorem tw_c112 : Cond.code tb_m112.1 tb_m112.2.1 tb_m112.2.2.1 tb_m112.2.2.2.1 ∈ ai_GT := List.mem_filter.mpr ⟨List.mem_of_getElem? (i := 929) rfl, rfl⟩
set_option maxRecDepth 100000 in
theorem tw_c113 : Cond.code tb_m113.1 tb_m113.2.1 tb_m113.2.2.1 tb_m113.2.2.2.1 ∈ ai_GT := List.mem_filter.mpr ⟨List.mem_of_getElem? (i := 901) rfl, rfl⟩
set_option maxRecDepth 100000 in
theorem tw_c114 : Cond.code tb_m114.1 tb_m114.2.1 tb_m114.2.2.1 tb_m114.2.2.2.1 ∈ ai_GT := List.mem_filter.mpr ⟨List.mem_of_getElem? (i := 926) rfl, rfl⟩
set_option maxRecDepth 100000 in
theorem tw_c115 : Cond.code tb_m115.1 tb_m115.2.1 tb_m115.2.2.1 tb_m115.2.2.2.1 ∈ ai_GT := List.mem_filter.mpr ⟨List.mem_of_getElem? (i := 909) rfl, rfl⟩
set_option maxRecDepth 100000 in
theorem tw_c116 : Cond.code tb_m116.1 tb_m116.2.1 tb_m116.2.2.1 tb_m116.2.2.2.1 ∈ ai_GT := List.mem_filter.mpr ⟨List.mem_of_getElem? (i := 905) rfl, rfl⟩
set_option maxRecDepth 100000 in
theorem tw_c117 : Cond.code tb_m117.1 tb_m117.2.1 tb_m117.2.2.1 tb_m117.2.2.2.1 ∈ ai_GT := List.mem_filter.mpr ⟨List.mem_of_getElem? (i := 913) rfl, rfl⟩
set_option maxRecDepth 100000 in
theorem tw_c118 : Cond.code tb_m118.1 tb_m118.2.1 tb_m118.2.2.1 tb_m118.2.2.2.1 ∈ ai_GT := List.mem_filter.mpr ⟨List.mem_of_getElem? (i := 897) rfl, rfl⟩
set_option maxRecDepth 100000 in
theorem tw_c119 : Cond.code tb_m119.1 tb_m119.2.1 tb_m119.2.2.1 tb_m119.2.2.2.1 ∈ ai_GT := List.mem_filter.mpr ⟨List.mem_of_getElem? (i := 917) rfl, rfl⟩
set_option maxRecDepth 100000 in
theorem tw_c120 : Cond.code tb_m120.1 tb_m120.2.1 tb_m120.2.2.1 tb_m120.2.2.2.1 ∈ ai_GT := List.mem_filter.mpr ⟨List.mem_of_getElem? (i := 933) rfl, rfl⟩
set_option maxRecDepth 100000 in
theorem tw_c121 : Cond.code tb_m121.1 tb_m121.2.1 tb_m121.2.2.1 tb_m121.2.2.2.1 ∈ ai_GT := List.mem_filter.mpr ⟨List.mem_of_getElem? (i := 943) rfl, rfl⟩
set_option maxRecDepth 100000 in
theorem tw_c122 : Cond.code tb_m122.1 tb_m122.2.1 tb_m122.2.2.1 tb_m122.2.2.2.1 ∈ ai_GT := List.mem_filter.mpr ⟨List.mem_of_getElem? (i := 937) rfl, rfl⟩
set_option maxRecDepth 100000 in
theorem tw_c123 : Cond.code tb_m123.1 tb_m123.2.1 tb_m123.2.2.1 tb_m123.2.2.2.1 ∈ ai_GT := List.mem_filter.mpr ⟨List.mem_of_getElem? (i := 947) rfl, rfl⟩
set_option maxRecDepth 100000 in
theorem tw_c124 : Cond.code tb_m124.1 tb_m124.2.1 tb_m124.2.2.1 tb_m124.2.2.2.1 ∈ ai_GT := List.mem_filter.mpr ⟨List.mem_of_getElem? (i := 952) rfl, rfl⟩
set_option maxRecDepth 100000 in
theorem tw_c125 : Cond.code tb_m125.1 tb_m125.2.1 tb_m125.2.2.1 tb_m125.2.2.2.1 ∈ ai_GT := List.mem_filter.mpr ⟨List.mem_of_getElem? (i := 956) rfl, rfl⟩
set_option maxRecDepth 100000 in
theorem tw_c126 : Cond.code tb_m126.1 tb_m126.2.1 tb_m126.2.2.1 tb_m126.2.2.2.1 ∈ ai_GT := List.mem_filter.mpr ⟨List.mem_of_getElem? (i := 960) rfl, rfl⟩
set_option maxRecDepth 100000 in
theorem tw_c127 : Cond.code tb_m127.1 tb_m127.2.1 tb_m127.2.2.1 tb_m127.2.2.2.1 ∈ ai_GT := List.mem_filter.mpr ⟨List.mem_of_getElem? (i := 972) rfl, rfl⟩
set_option maxRecDepth 100000 in
theorem tw_c128 : Cond.code tb_m128.1 tb_m128.2.1 tb_m128.2.2.1 tb_m128.2.2.2.1 ∈ ai_GT := List.mem_filter.mpr ⟨List.mem_of_getElem? (i := 976) rfl, rfl⟩
set_option maxRecDepth 100000 in
theorem tw_c129 : Cond.code tb_m129.1 tb_m129.2.1 tb_m129.2.2.1 tb_m129.2.2.2.1 ∈ ai_GT := List.mem_filter.mpr ⟨List.mem_of_getElem? (i := 984) rfl, rfl⟩
set_option maxRecDepth 100000 in
theorem tw_c130 : Cond.code tb_m130.1 tb_m130.2.1 tb_m130.2.2.1 tb_m130.2.2.2.1 ∈ ai_GT := List.mem_filter.mpr ⟨List.mem_of_getElem? (i := 1000) rfl, rfl⟩
set_option maxRecDepth 100000 in
theorem tw_c131 : Cond.code tb_m131.1 tb_m131.2.1 tb_m131.2.2.1 tb_m131.2.2.2.1 ∈ ai_GT := List.mem_filter.mpr ⟨List.mem_of_getElem? (i := 968) rfl, rfl⟩
set_option maxRecDepth 100000 in
theorem tw_c132 : Cond.code tb_m132.1 tb_m132.2.1 tb_m132.2.2.1 tb_m132.2.2.2.1 ∈ ai_GT := List.mem_filter.mpr ⟨List.mem_of_getElem? (i := 964) rfl, rfl⟩
set_option maxRecDepth 100000 in
theorem tw_c133 : Cond.code tb_m133.1 tb_m133.2.1 tb_m133.2.2.1 tb_m133.2.2.2.1 ∈ ai_GT := List.mem_filter.mpr ⟨List.mem_of_getElem? (i := 980) rfl, rfl⟩
set_option maxRecDepth 100000 in
theorem tw_c134 : Cond.code tb_m134.1 tb_m134.2.1 tb_m134.2.2.1 tb_m134.2.2.2.1 ∈ ai_GT := List.mem_filter.mpr ⟨List.mem_of_getElem? (i := 996) rfl, rfl⟩
set_option maxRecDepth 100000 in
theorem tw_c135 : Cond.code tb_m135.1 tb_m135.2.1 tb_m135.2.2.1 tb_m135.2.2.2.1 ∈ ai_GT := List.mem_filter.mpr ⟨List.mem_of_getElem? (i := 992) rfl, rfl⟩
set_option maxRecDepth 100000 in
theorem tw_c136 : Cond.code tb_m136.1 tb_m136.2.1 tb_m136.2.2.1 tb_m136.2.2.2.1 ∈ ai_GT := List.mem_filter.mpr ⟨List.mem_of_getElem? (i := 1004) rfl, rfl⟩
set_option maxRecDepth 100000 in
theorem tw_c137 : Cond.code tb_m137.1 tb_m137.2.1 tb_m137.2.2.1 tb_m137.2.2.2.1 ∈ ai_GT := List.mem_filter.mpr ⟨List.mem_of_getElem? (i := 988) rfl, rfl⟩
set_option maxRecDepth 100000 in
theorem tw_c138 : Cond.code tb_m138.1 tb_m138.2.1 tb_m138.2.2.1 tb_m138.2.2.2.1 ∈ ai_GT := List.mem_filter.mpr ⟨List.mem_of_getElem? (i := 1008) rfl, rfl⟩
set_option maxRecDepth 100000 in
theorem tw_c139 : Cond.code tb_m139.1 tb_m139.2.1 tb_m139.2.2.1 tb_m139.2.2.2.1 ∈ ai_GT := List.mem_filter.mpr ⟨List.mem_of_getElem? (i := 1016) rfl, rfl⟩
set_option maxRecDepth 100000 in
theorem tw_c140 : Cond.code tb_m140.1 tb_m140.2.1 tb_m140.2.2.1 tb_m140.2.2.2.1 ∈ ai_GT := List.mem_filter.mpr ⟨List.mem_of_getElem? (i := 1012) rfl, rfl⟩
set_option maxRecDepth 100000 in
theorem tw_c141 : Cond.code tb_m141.1 tb_m141.2.1 tb_m141.2.2.1 tb_m141.2.2.2.1 ∈ ai_GT := List.mem_filter.mpr ⟨List.mem_of_getElem? (i := 1020) rfl, rfl⟩
set_option maxRecDepth 100000 in
theorem tw_c142 : Cond.code tb_m142.1 tb_m142.2.1 tb_m142.2.2.1 tb_m142.2.2.2.1 ∈ ai_GT := List.mem_filter.mpr ⟨List.mem_of_getElem? (i := 1039) rfl, rfl⟩
set_option maxRecDepth 100000 in
theorem tw_c143 : Cond.code tb_m143.1 tb_m143.2.1 tb_m143.2.2.1 tb_m143.2.2.2.1 ∈ ai_GT := List.mem_filter.mpr ⟨List.mem_of_getElem? (i := 1029) rfl, rfl⟩
set_option maxRecDepth 100000 in
theorem tw_c144 : Cond.code tb_m144.1 tb_m144.2.1 tb_m144.2.2.1 tb_m144.2.2.2.1 ∈ ai_GT := List.mem_filter.mpr ⟨List.mem_of_getElem? (i := 1036) rfl, rfl⟩
set_option maxRecDepth 100000 in
theorem tw_c145 : Cond.code tb_m145.1 tb_m145.2.1 tb_m145.2.2.1 tb_m145.2.2.2.1 ∈ ai_GT := List.mem_filter.mpr ⟨List.mem_of_getElem? (i := 1033) rfl, rfl⟩
set_option maxRecDepth 100000 in
theorem tw_c146 : Cond.code tb_m146.1 tb_m146.2.1 tb_m146.2.2.1 tb_m146.2.2.2.1 ∈ ai_GT := List.mem_filter.mpr ⟨List.mem_of_getElem? (i := 1024) rfl, rfl⟩
set_option maxRecDepth 100000 in
theorem tw_c147 : Cond.code tb_m147.1 tb_m147.2.1 tb_m147.2.2.1 tb_m147.2.2.2.1 ∈ ai_GT := List.mem_filter.mpr ⟨List.mem_of_getElem? (i := 1043) rfl, rfl⟩
set_option maxRecDepth 100000 in
theorem tw_c148 : Cond.code tb_m148.1 tb_m148.2.1 tb_m148.2.2.1 tb_m148.2.2.2.1 ∈ ai_GT := List.mem_filter.mpr ⟨List.mem_of_getElem? (i := 1047) rfl, rfl⟩
set_option maxRecDepth 100000 in
theorem tw_c149 : Cond.code tb_m149.1 tb_m149.2.1 tb_m149.2.2.1 tb_m149.2.2.2.1 ∈ ai_GT := List.mem_filter.mpr ⟨List.mem_of_getElem? (i := 1051) rfl, rfl⟩
set_option maxRecDepth 100000 in
theorem tw_c150 : Cond.code tb_m150.1 tb_m150.2.1 tb_m150.2.2.1 tb_m150.2.2.2.1 ∈ ai_GT := List.mem_filter.mpr ⟨List.mem_of_getElem? (i := 1067) rfl, rfl⟩
set_option maxRecDepth 100000 in
theorem tw_c151 : Cond.code tb_m151.1 tb_m151.2.1 tb_m151.2.2.1 tb_m151.2.2.2.1 ∈ ai_GT := List.mem_filter.mpr ⟨List.mem_of_getElem? (i := 1064) rfl, rfl⟩
set_option maxRecDepth 100000 in
theorem tw_c152 : Cond.code tb_m152.1 tb_m152.2.1 tb_m152.2.2.1 tb_m152.2.2.2.1 ∈ ai_GT := List.mem_filter.mpr ⟨List.mem_of_getElem? (i := 1059) rfl, rfl⟩
set_option maxRecDepth 100000 in
theorem tw_c153 : Cond.code tb_m153.1 tb_m153.2.1 tb_m153.2.2.1 tb_m153.2.2.2.1 ∈ ai_GT := List.mem_filter.mpr ⟨List.mem_of_getElem? (i := 1055) rfl, rfl⟩
set_option maxRecDepth 100000 in
theorem tw_c154 : Cond.code tb_m154.1 tb_m154.2.1 tb_m154.2.2.1 tb_m154.2.2.2.1 ∈ ai_GT := List.mem_filter.mpr ⟨List.mem_of_getElem? (i := 1072) rfl, rfl⟩
set_option maxRecDepth 100000 in
theorem tw_c155 : Cond.code tb_m155.1 tb_m155.2.1 tb_m155.2.2.1 tb_m155.2.2.2.1 ∈ ai_GT := List.mem_filter.mpr ⟨List.mem_of_getElem? (i := 1076) rfl, rfl⟩
set_option maxRecDepth 100000 in
theorem tw_c156 : Cond.code tb_m156.1 tb_m156.2.1 tb_m156.2.2.1 tb_m156.2.2.2.1 ∈ ai_GT := List.mem_filter.mpr ⟨List.mem_of_getElem? (i := 1080) rfl, rfl⟩
set_option maxRecDepth 100000 in
theorem tw_c157 : Cond.code tb_m157.1 tb_m157.2.1 tb_m157.2.2.1 tb_m157.2.2.2.1 ∈ ai_GT := List.mem_filter.mpr ⟨List.mem_of_getElem? (i := 1088) rfl, rfl⟩
set_option maxRecDepth 100000 in
theorem tw_c158 : Cond.code tb_m158.1 tb_m158.2.1 tb_m158.2.2.1 tb_m158.2.2.2.1 ∈ ai_GT := List.mem_filter.mpr ⟨List.mem_of_getElem? (i := 1084) rfl, rfl⟩
set_option maxRecDepth 100000 in
theorem tw_c159 : Cond.code tb_m159.1 tb_m159.2.1 tb_m159.2.2.1 tb_m159.2.2.2.1 ∈ ai_GT := List.mem_filter.mpr ⟨List.mem_of_getElem? (i := 1092) rfl, rfl⟩
set_option maxRecDepth 100000 in
theorem tw_c160 : Cond.code tb_m160.1 tb_m160.2.1 tb_m160.2.2.1 tb_m160.2.2.2.1 ∈ ai_GT := List.mem_filter.mpr ⟨List.mem_of_getElem? (i := 1096) rfl, rfl⟩
set_option maxRecDepth 100000 in
theorem tw_c161 : Cond.code tb_m161.1 tb_m161.2.1 tb_m161.2.2.1 tb_m161.2.2.2.1 ∈ ai_GT := List.mem_filter.mpr ⟨List.mem_of_getElem? (i := 1101) rfl, rfl⟩
set_option maxRecDepth 100000 in
theorem tw_c162 : Cond.code tb_m162.1 tb_m162.2.1 tb_m162.2.2.1 tb_m162.2.2.2.1 ∈ ai_GT := List.mem_filter.mpr ⟨List.mem_of_getElem? (i := 1107) rfl, rfl⟩
set_option maxRecDepth 100000 in
theorem tw_c163 : Cond.code tb_m163.1 tb_m163.2.1 tb_m163.2.2.1 tb_m163.2.2.2.1 ∈ ai_GT := List.mem_filter.mpr ⟨List.mem_of_getElem? (i := 1111) rfl, rfl⟩
set_option maxRecDepth 100000 in
theorem tw_c164 : Cond.code tb_m164.1 tb_m164.2.1 tb_m164.2.2.1 tb_m164.2.2.2.1 ∈ ai_GT := List.mem_filter.mpr ⟨List.mem_of_getElem? (i := 1115) rfl, rfl⟩
set_option maxRecDepth 100000 in
theorem tw_c165 : Cond.code tb_m165.1 tb_m165.2.1 tb_m165.2.2.1 tb_m165.2.2.2.1 ∈ ai_GT := List.mem_filter.mpr ⟨List.mem_of_getElem? (i := 1119) rfl, rfl⟩
set_option maxRecDepth 100000 in
theorem tw_c166 : Cond.code tb_m166.1 tb_m166.2.1 tb_m166.2.2.1 tb_m166.2.2.2.1 ∈ ai_GT := List.mem_filter.mpr ⟨List.mem_of_getElem? (i := 1123) rfl, rfl⟩
set_option maxRecDepth 100000 in
theorem tw_c167 : Cond.code tb_m167.1 tb_m167.2.1 tb_m167.2.2.1 tb_m167.2.2.2.1 ∈ ai_GT := List.mem_filter.mpr ⟨List.mem_of_getElem? (i := 1127) rfl, rfl⟩
set_option maxRecDepth 100000 in
theorem tw_c168 : Cond.code tb_m168.1 tb_m168.2.1 tb_m168.2.2.1 tb_m168.2.2.2.1 ∈ ai_GT := List.mem_filter.mpr ⟨List.mem_of_getElem? (i := 1131) rfl, rfl⟩
set_option maxRecDepth 100000 in
theorem tw_c170 : Cond.code tb_m170.1 tb_m170.2.1 tb_m170.2.2.1 tb_m170.2.2.2.1 ∈ ai_GT := List.mem_filter.mpr ⟨List.mem_of_getElem? (i := 583) rfl, rfl⟩
end
section
/-! every row of the calls -/
set_option maxRecDepth 100000 in
theorem tw_C : ∀ M ∈ tb_MT, M.2.2.2.2.1 = false → Cond.code M.1 M.2.1 M.2.2.1 M.2.2.2.1 ∈ ai_GT := List.forall_mem_cons.mpr ⟨fun _ => tw_c0, List.forall_mem_cons.mpr ⟨fun _ => tw_c1, List.forall_mem_cons.mpr ⟨fun _ => tw_c2, List.forall_mem_cons.mpr ⟨fun _ => tw_c3, List.forall_mem_cons.mpr ⟨fun _ => tw_c4, List.forall_mem_cons.mpr ⟨fun _ => tw_c5, List.forall_mem_cons.mpr ⟨fun _ => tw_c6, List.forall_mem_cons.mpr ⟨fun _ => tw_c7, List.forall_mem_cons.mpr ⟨fun _ => tw_c8, List.forall_mem_cons.mpr ⟨fun _ => tw_c9, List.forall_mem_cons.mpr ⟨fun _ => tw_c10, List.forall_mem_cons.mpr ⟨fun _ => tw_c11, List.forall_mem_cons.mpr ⟨fun _ => tw_c12, List.forall_mem_cons.mpr ⟨fun _ => tw_c13, List.forall_mem_cons.mpr ⟨fun _ => tw_c14, List.forall_mem_cons.mpr ⟨fun _ => tw_c15, List.forall_mem_cons.mpr ⟨fun _ => tw_c16, List.forall_mem_cons.mpr ⟨fun _ => tw_c17, List.forall_mem_cons.mpr ⟨fun _ => tw_c18, List.forall_mem_cons.mpr ⟨fun _ => tw_c19, List.forall_mem_cons.mpr ⟨fun _ => tw_c20, List.forall_mem_cons.mpr ⟨fun _ => tw_c21, List.forall_mem_cons.mpr ⟨fun _ => tw_c22, List.forall_mem_cons.mpr ⟨fun _ => tw_c23, List.forall_mem_cons.mpr ⟨fun _ => tw_c24, List.forall_mem_cons.mpr ⟨fun _ => tw_c25, List.forall_mem_cons.mpr ⟨fun _ => tw_c26, List.forall_mem_cons.mpr ⟨fun _ => tw_c27, List.forall_mem_cons.mpr ⟨fun _ => tw_c28, List.forall_mem_cons.mpr ⟨fun _ => tw_c29, List.forall_mem_cons.mpr ⟨fun _ => tw_c30, List.forall_mem_cons.mpr ⟨fun _ => tw_c31, List.forall_mem_cons.mpr ⟨fun _ => tw_c32, List.forall_mem_cons.mpr ⟨fun _ => tw_c33, List.forall_mem_cons.mpr ⟨fun _ => tw_c34, List.forall_mem_cons.mpr ⟨fun _ => tw_c35, List.forall_mem_cons.mpr ⟨fun _ => tw_c36, List.forall_mem_cons.mpr ⟨fun _ => tw_c37, List.forall_mem_cons.mpr ⟨fun _ => tw_c38, List.forall_mem_cons.mpr ⟨fun _ => tw_c39, List.forall_mem_cons.mpr ⟨fun _ => tw_c40, List.forall_mem_cons.mpr ⟨fun _ => tw_c41, List.forall_mem_cons.mpr ⟨fun _ => tw_c42, List.forall_mem_cons.mpr ⟨fun _ => tw_c43, List.forall_mem_cons.mpr ⟨fun _ => tw_c44, List.forall_mem_cons.mpr ⟨fun _ => tw_c45, List.forall_mem_cons.mpr ⟨fun _ => tw_c46, List.forall_mem_cons.mpr ⟨fun _ => tw_c47, List.forall_mem_cons.mpr ⟨fun _ => tw_c48, List.forall_mem_cons.mpr ⟨fun _ => tw_c49, List.forall_mem_cons.mpr ⟨fun _ => tw_c50, List.forall_mem_cons.mpr ⟨fun _ => tw_c51, List.forall_mem_cons.mpr ⟨fun _ => tw_c52, List.forall_mem_cons.mpr ⟨fun _ => tw_c53, List.forall_mem_cons.mpr ⟨fun _ => tw_c54, List.forall_mem_cons.mpr ⟨fun _ => tw_c55, List.forall_mem_cons.mpr ⟨fun _ => tw_c56, List.forall_mem_cons.mpr ⟨fun _ => tw_c57, List.forall_mem_cons.mpr ⟨fun _ => tw_c58, List.forall_mem_cons.mpr ⟨fun _ => tw_c59, List.forall_mem_cons.mpr ⟨fun _ => tw_c60, List.forall_mem_cons.mpr ⟨fun _ => tw_c61, List.forall_mem_cons.mpr ⟨fun _ => tw_c62, List.forall_mem_cons.mpr ⟨fun _ => tw_c63, List.forall_mem_cons.mpr ⟨fun _ => tw_c64, List.forall_mem_cons.mpr ⟨fun _ => tw_c65, List.forall_mem_cons.mpr ⟨fun _ => tw_c66, List.forall_mem_cons.mpr ⟨fun _ => tw_c67, List.forall_mem_cons.mpr ⟨fun _ => tw_c68, List.forall_mem_cons.mpr ⟨fun _ => tw_c69, List.forall_mem_cons.mpr ⟨fun _ => tw_c70, List.forall_mem_cons.mpr ⟨fun _ => tw_c71, List.forall_mem_cons.mpr ⟨fun _ => tw_c72, List.forall_mem_cons.mpr ⟨fun _ => tw_c73, List.forall_mem_cons.mpr ⟨fun _ => tw_c74, List.forall_mem_cons.mpr ⟨fun _ => tw_c75, List.forall_mem_cons.mpr ⟨fun _ => tw_c76, List.forall_mem_cons.mpr ⟨fun _ => tw_c77, List.forall_mem_cons.mpr ⟨fun _ => tw_c78, List.forall_mem_cons.mpr ⟨fun _ => tw_c79, List.forall_mem_cons.mpr ⟨fun _ => tw_c80, List.forall_mem_cons.mpr ⟨fun _ => tw_c81, List.forall_mem_cons.mpr ⟨fun _ => tw_c82, List.forall_mem_cons.mpr ⟨fun _ => tw_c83, List.forall_mem_cons.mpr ⟨fun _ => tw_c84, List.forall_mem_cons.mpr ⟨fun _ => tw_c85, List.forall_mem_cons.mpr ⟨fun _ => tw_c86, List.forall_mem_cons.mpr ⟨fun _ => tw_c87, List.forall_mem_cons.mpr ⟨fun _ => tw_c88, List.forall_mem_cons.mpr ⟨fun _ => tw_c89, List.forall_mem_cons.mpr ⟨fun _ => tw_c90, List.forall_mem_cons.mpr ⟨fun _ => tw_c91, List.forall_mem_cons.mpr ⟨fun _ => tw_c92, List.forall_mem_cons.mpr ⟨fun _ => tw_c93, List.forall_mem_cons.mpr ⟨fun _ => tw_c94, List.forall_mem_cons.mpr ⟨fun _ => tw_c95, List.forall_mem_cons.mpr ⟨fun _ => tw_c96, List.forall_mem_cons.mpr ⟨fun _ => tw_c97, List.forall_mem_cons.mpr ⟨fun _ => tw_c98, List.forall_mem_cons.mpr ⟨fun _ => tw_c99, List.forall_mem_cons.mpr ⟨fun _ => tw_c100, List.forall_mem_cons.mpr ⟨fun _ => tw_c101, List.forall_mem_cons.mpr ⟨fun _ => tw_c102, List.forall_mem_cons.mpr ⟨fun _ => tw_c103, List.forall_mem_cons.mpr ⟨fun _ => tw_c104, List.forall_mem_cons.mpr ⟨fun _ => tw_c105, List.forall_mem_cons.mpr ⟨fun _ => tw_c106, List.forall_mem_cons.mpr ⟨fun _ => tw_c107, List.forall_mem_cons.mpr ⟨fun _ => tw_c108, List.forall_mem_cons.mpr ⟨fun _ => tw_c109, List.forall_mem_cons.mpr ⟨fun _ => tw_c110, List.forall_mem_cons.mpr ⟨fun _ => tw_c111, List.forall_mem_cons.mpr ⟨fun _ => tw_c112, List.forall_mem_cons.mpr ⟨fun _ => tw_c113, List.forall_mem_cons.mpr ⟨fun _ => tw_c114, List.forall_mem_cons.mpr ⟨fun _ => tw_c115, List.forall_mem_cons.mpr ⟨fun _ => tw_c116, List.forall_mem_cons.mpr ⟨fun _ => tw_c117, List.forall_mem_cons.mpr ⟨fun _ => tw_c118, List.forall_mem_cons.mpr ⟨fun _ => tw_c119, List.forall_mem_cons.mpr ⟨fun _ => tw_c120, List.forall_mem_cons.mpr ⟨fun _ => tw_c121, List.forall_mem_cons.mpr ⟨fun _ => tw_c122, List.forall_mem_cons.mpr ⟨fun _ => tw_c123, List.forall_mem_cons.mpr ⟨fun _ => tw_c124, List.forall_mem_cons.mpr ⟨fun _ => tw_c125, List.forall_mem_cons.mpr ⟨fun _ => tw_c126, List.forall_mem_cons.mpr ⟨fun _ => tw_c127, List.forall_mem_cons.mpr ⟨fun _ => tw_c128, List.forall_mem_cons.mpr ⟨fun _ => tw_c129, List.forall_mem_cons.mpr ⟨fun _ => tw_c130, List.forall_mem_cons.mpr ⟨fun _ => tw_c131, List.forall_mem_cons.mpr ⟨fun _ => tw_c132, List.forall_mem_cons.mpr ⟨fun _ => tw_c133, List.forall_mem_cons.mpr ⟨fun _ => tw_c134, List.forall_mem_cons.mpr ⟨fun _ => tw_c135, List.forall_mem_cons.mpr ⟨fun _ => tw_c136, List.forall_mem_cons.mpr ⟨fun _ => tw_c137, List.forall_mem_cons.mpr ⟨fun _ => tw_c138, List.forall_mem_cons.mpr ⟨fun _ => tw_c139, List.forall_mem_cons.mpr ⟨fun _ => tw_c140, List.forall_mem_cons.mpr ⟨fun _ => tw_c141, List.forall_mem_cons.mpr ⟨fun _ => tw_c142, List.forall_mem_cons.mpr ⟨fun _ => tw_c143, List.forall_mem_cons.mpr ⟨fun _ => tw_c144, List.forall_mem_cons.mpr ⟨fun _ => tw_c145, List.forall_mem_cons.mpr ⟨fun _ => tw_c146, List.forall_mem_cons.mpr ⟨fun _ => tw_c147, List.forall_mem_cons.mpr ⟨fun _ => tw_c148, List.forall_mem_cons.mpr ⟨fun _ => tw_c149, List.forall_mem_cons.mpr ⟨fun _ => tw_c150, List.forall_mem_cons.mpr ⟨fun _ => tw_c151, List.forall_mem_cons.mpr ⟨fun _ => tw_c152, List.forall_mem_cons.mpr ⟨fun _ => tw_c153, List.forall_mem_cons.mpr ⟨fun _ => tw_c154, List.forall_mem_cons.mpr ⟨fun _ => tw_c155, List.forall_mem_cons.mpr ⟨fun _ => tw_c156, List.forall_mem_cons.mpr ⟨fun _ => tw_c157, List.forall_mem_cons.mpr ⟨fun _ => tw_c158, List.forall_mem_cons.mpr ⟨fun _ => tw_c159, List.forall_mem_cons.mpr ⟨fun _ => tw_c160, List.forall_mem_cons.mpr ⟨fun _ => tw_c161, List.forall_mem_cons.mpr ⟨fun _ => tw_c162, List.forall_mem_cons.mpr ⟨fun _ => tw_c163, List.forall_mem_cons.mpr ⟨fun _ => tw_c164, List.forall_mem_cons.mpr ⟨fun _ => tw_c165, List.forall_mem_cons.mpr ⟨fun _ => tw_c166, List.forall_mem_cons.mpr ⟨fun _ => tw_c167, List.forall_mem_cons.mpr ⟨fun _ => tw_c168, List.forall_mem_cons.mpr ⟨(fun h => by cases h), List.forall_mem_cons.mpr ⟨fun _ => tw_c170, fun _ h => absurd h List.not_mem_nil⟩⟩⟩⟩⟩⟩⟩⟩⟩⟩⟩⟩⟩⟩⟩⟩⟩⟩⟩⟩⟩⟩⟩⟩⟩⟩⟩⟩⟩⟩⟩⟩⟩⟩⟩⟩⟩⟩⟩⟩⟩⟩⟩⟩⟩⟩⟩⟩⟩⟩⟩⟩⟩⟩⟩⟩⟩⟩⟩⟩⟩⟩⟩⟩⟩⟩⟩⟩⟩⟩⟩⟩⟩⟩⟩⟩⟩⟩⟩⟩⟩⟩⟩⟩⟩⟩⟩⟩⟩⟩⟩⟩⟩⟩⟩⟩⟩⟩⟩⟩⟩⟩⟩⟩⟩⟩⟩⟩⟩⟩⟩⟩⟩⟩⟩⟩⟩⟩⟩⟩⟩⟩⟩⟩⟩⟩⟩⟩⟩⟩⟩⟩⟩⟩⟩⟩⟩⟩⟩⟩⟩⟩⟩⟩⟩⟩⟩⟩⟩⟩⟩⟩⟩⟩⟩⟩⟩⟩⟩⟩⟩⟩⟩⟩⟩⟩⟩⟩⟩⟩⟩
theorem tw_RX0_40 : ai_lok tb_MT RX0 (40, 5, 0, 5, 0) := tw_l_ok tw_C (a := 426) (b := 427) (c := 63) (d := 428) (by decide +kernel)
theorem tw_RX0_46 : ai_lok tb_MT RX0 (46, 0, 4, 1, 0) := tw_l_ok tw_C (a := 442) (b := 443) (c := 444) (d := 53) (by decide +kernel)
theorem tw_RX0_50 : ai_lok tb_MT RX0 (50, 0, 5, 0, 0) := tw_l_ok tw_C (a := 580) (b := 439) (c := 440) (d := 53) (by decide +kernel)
theorem tw_RX0_54 : ai_lok tb_MT RX0 (54, 1, 170, 1, 0) := tw_l_ok tw_C (a := 581) (b := 582) (c := 65) (d := 0) (by decide +kernel)
theorem tw_RX0_60 : ai_lok tb_MT RX0 (60, 0, 10, 1, 0) := tw_l_ok tw_C (a := 450) (b := 452) (c := 13) (d := 53) (by decide +kernel)
theorem tw_RX0_68 : ai_lok tb_MT RX0 (68, 0, 2, 1, 0) := tw_l_ok tw_C (a := 508) (b := 419) (c := 420) (d := 53) (by decide +kernel)
theorem tw_RX0_71 : ai_lok tb_MT RX0 (71, 0, 11, 1, 0) := tw_l_ok tw_C (a := 513) (b := 460) (c := 461) (d := 53) (by decide +kernel)
theorem tw_RX0_74 : ai_lok tb_MT RX0 (74, 3, 0, 2, 0) := tw_l_ok tw_C (a := 514) (b := 515) (c := 64) (d := 0) (by decide +kernel)
theorem tw_RX0_80 : ai_lok tb_MT RX0 (80, 0, 14, 0, 0) := tw_l_ok tw_C (a := 537) (b := 522) (c := 523) (d := 53) (by decide +kernel)
theorem tw_RX0_83 : ai_lok tb_MT RX0 (83, 0, 12, 1, 0) := tw_l_ok tw_C (a := 538) (b := 505) (c := 506) (d := 53) (by decide +kernel)
theorem tw_RX0_86 : ai_lok tb_MT RX0 (86, 0, 13, 1, 0) := tw_l_ok tw_C (a := 539) (b := 510) (c := 511) (d := 53) (by decide +kernel)
theorem tw_RX0_89 : ai_lok tb_MT RX0 (89, 0, 15, 1, 0) := tw_l_ok tw_C (a := 533) (b := 534) (c := 535) (d := 53) (by decide +kernel)
theorem tw_RX0_64 : ai_lok tb_MT RX0 (64, 2, 96, 3, 0) := tw_l_ok tw_C (a := 463) (b := 464) (c := 52) (d := 0) (by decide +kernel)
theorem tv_ml_RX0 : ∀ q ∈ tb_ml_RX0, ai_lok tb_MT RX0 q := List.forall_mem_cons.mpr ⟨tw_RX0_40, List.forall_mem_cons.mpr ⟨tw_RX0_46, List.forall_mem_cons.mpr ⟨tw_RX0_50, List.forall_mem_cons.mpr ⟨tw_RX0_54, List.forall_mem_cons.mpr ⟨tw_RX0_60, List.forall_mem_cons.mpr ⟨tw_RX0_68, List.forall_mem_cons.mpr ⟨tw_RX0_71, List.forall_mem_cons.mpr ⟨tw_RX0_74, List.forall_mem_cons.mpr ⟨tw_RX0_80, List.forall_mem_cons.mpr ⟨tw_RX0_83, List.forall_mem_cons.mpr ⟨tw_RX0_86, List.forall_mem_cons.mpr ⟨tw_RX0_89, List.forall_mem_cons.mpr ⟨tw_RX0_64, fun _ h => absurd h List.not_mem_nil⟩⟩⟩⟩⟩⟩⟩⟩⟩⟩⟩⟩⟩
theorem tw_RX1_45 : ai_lok tb_MT RX1 (45, 0, 19, 2, 1) := tw_l_ok tw_C (a := 621) (b := 623) (c := 21) (d := 56) (by decide +kernel)
theorem tw_RX1_49 : ai_lok tb_MT RX1 (49, 3, 0, 2, 0) := tw_l_ok tw_C (a := 626) (b := 515) (c := 64) (d := 0) (by decide +kernel)
theorem tw_RX1_57 : ai_lok tb_MT RX1 (57, 1, 23, 2, 0) := tw_l_ok tw_C (a := 635) (b := 636) (c := 56) (d := 0) (by decide +kernel)
theorem tw_RX1_41 : ai_lok tb_MT RX1 (41, 2, 96, 3, 0) := tw_l_ok tw_C (a := 620) (b := 464) (c := 52) (d := 0) (by decide +kernel)
theorem tv_ml_RX1 : ∀ q ∈ tb_ml_RX1, ai_lok tb_MT RX1 q := List.forall_mem_cons.mpr ⟨tw_RX1_45, List.forall_mem_cons.mpr ⟨tw_RX1_49, List.forall_mem_cons.mpr ⟨tw_RX1_57, List.forall_mem_cons.mpr ⟨tw_RX1_41, fun _ h => absurd h List.not_mem_nil⟩⟩⟩⟩
theorem tw_RX2_26 : ai_lok tb_MT RX2 (26, 0, 0, 0, 0) := tw_l_ok tw_C (a := 296) (b := 297) (c := 298) (d := 53) (by decide +kernel)
theorem tw_RX2_44 : ai_lok tb_MT RX2 (44, 0, 34, 0, 2) := tw_l_ok tw_C (a := 300) (b := 302) (c := 0) (d := 54) (by decide +kernel)
theorem tw_RX2_50 : ai_lok tb_MT RX2 (50, 0, 26, 0, 2) := tw_l_ok tw_C (a := 313) (b := 315) (c := 3) (d := 54) (by decide +kernel)
theorem tw_RX2_53 : ai_lok tb_MT RX2 (53, 0, 30, 0, 2) := tw_l_ok tw_C (a := 414) (b := 416) (c := 12) (d := 54) (by decide +kernel)
theorem tw_RX2_57 : ai_lok tb_MT RX2 (57, 0, 33, 2, 2) := tw_l_ok tw_C (a := 387) (b := 389) (c := 7) (d := 54) (by decide +kernel)
theorem tw_RX2_61 : ai_lok tb_MT RX2 (61, 0, 37, 0, 2) := tw_l_ok tw_C (a := 317) (b := 319) (c := 4) (d := 54) (by decide +kernel)
theorem tw_RX2_65 : ai_lok tb_MT RX2 (65, 0, 32, 0, 2) := tw_l_ok tw_C (a := 383) (b := 385) (c := 6) (d := 54) (by decide +kernel)
theorem tw_RX2_71 : ai_lok tb_MT RX2 (71, 0, 27, 1, 2) := tw_l_ok tw_C (a := 391) (b := 393) (c := 8) (d := 54) (by decide +kernel)
theorem tw_RX2_75 : ai_lok tb_MT RX2 (75, 0, 28, 1, 2) := tw_l_ok tw_C (a := 403) (b := 405) (c := 10) (d := 54) (by decide +kernel)
theorem tw_RX2_81 : ai_lok tb_MT RX2 (81, 0, 31, 2, 2) := tw_l_ok tw_C (a := 395) (b := 397) (c := 9) (d := 54) (by decide +kernel)
theorem tw_RX2_88 : ai_lok tb_MT RX2 (88, 0, 3, 2, 0) := tw_l_ok tw_C (a := 399) (b := 400) (c := 401) (d := 53) (by decide +kernel)
theorem tw_RX2_103 : ai_lok tb_MT RX2 (103, 0, 29, 0, 2) := tw_l_ok tw_C (a := 410) (b := 412) (c := 11) (d := 54) (by decide +kernel)
theorem tw_RX2_118 : ai_lok tb_MT RX2 (118, 0, 2, 1, 0) := tw_l_ok tw_C (a := 418) (b := 419) (c := 420) (d := 53) (by decide +kernel)
theorem tw_RX2_126 : ai_lok tb_MT RX2 (126, 0, 35, 2, 2) := tw_l_ok tw_C (a := 304) (b := 306) (c := 1) (d := 54) (by decide +kernel)
theorem tw_RX2_130 : ai_lok tb_MT RX2 (130, 0, 36, 0, 2) := tw_l_ok tw_C (a := 309) (b := 311) (c := 2) (d := 54) (by decide +kernel)
theorem tw_RX2_100 : ai_lok tb_MT RX2 (100, 2, 95, 2, 0) := tw_l_ok tw_C (a := 407) (b := 408) (c := 52) (d := 0) (by decide +kernel)
theorem tw_RX2_122 : ai_lok tb_MT RX2 (122, 2, 94, 3, 0) := tw_l_ok tw_C (a := 308) (b := 278) (c := 52) (d := 0) (by decide +kernel)
theorem tv_ml_RX2 : ∀ q ∈ tb_ml_RX2, ai_lok tb_MT RX2 q := List.forall_mem_cons.mpr ⟨tw_RX2_26, List.forall_mem_cons.mpr ⟨tw_RX2_44, List.forall_mem_cons.mpr ⟨tw_RX2_50, List.forall_mem_cons.mpr ⟨tw_RX2_53, List.forall_mem_cons.mpr ⟨tw_RX2_57, List.forall_mem_cons.mpr ⟨tw_RX2_61, List.forall_mem_cons.mpr ⟨tw_RX2_65, List.forall_mem_cons.mpr ⟨tw_RX2_71, List.forall_mem_cons.mpr ⟨tw_RX2_75, List.forall_mem_cons.mpr ⟨tw_RX2_81, List.forall_mem_cons.mpr ⟨tw_RX2_88, List.forall_mem_cons.mpr ⟨tw_RX2_103, List.forall_mem_cons.mpr ⟨tw_RX2_118, List.forall_mem_cons.mpr ⟨tw_RX2_126, List.forall_mem_cons.mpr ⟨tw_RX2_130, List.forall_mem_cons.mpr ⟨tw_RX2_100, List.forall_mem_cons.mpr ⟨tw_RX2_122, fun _ h => absurd h List.not_mem_nil⟩⟩⟩⟩⟩⟩⟩⟩⟩⟩⟩⟩⟩⟩⟩⟩⟩
theorem tw_RX3_23 : ai_lok tb_MT RX3 (23, 0, 39, 1, 3) := tw_l_ok tw_C (a := 721) (b := 722) (c := 723) (d := 57) (by decide +kernel)
theorem tw_RX3_27 : ai_lok tb_MT RX3 (27, 0, 41, 2, 3) := tw_l_ok tw_C (a := 737) (b := 718) (c := 719) (d := 57) (by decide +kernel)
theorem tv_ml_RX3 : ∀ q ∈ tb_ml_RX3, ai_lok tb_MT RX3 q := List.forall_mem_cons.mpr ⟨tw_RX3_23, List.forall_mem_cons.mpr ⟨tw_RX3_27, fun _ h => absurd h List.not_mem_nil⟩⟩
theorem tw_RX4_28 : ai_lok tb_MT RX4 (28, 2, 97, 3, 0) := tw_l_ok tw_C (a := 667) (b := 668) (c := 52) (d := 0) (by decide +kernel)
theorem tv_ml_RX4 : ∀ q ∈ tb_ml_RX4, ai_lok tb_MT RX4 q := List.forall_mem_cons.mpr ⟨tw_RX4_28, fun _ h => absurd h List.not_mem_nil⟩
theorem tw_RX5_57 : ai_lok tb_MT RX5 (57, 1, 94, 3, 0) := tw_l_ok tw_C (a := 277) (b := 278) (c := 52) (d := 0) (by decide +kernel)
theorem tw_RX5_61 : ai_lok tb_MT RX5 (61, 0, 24, 1, 2) := tw_l_ok tw_C (a := 280) (b := 281) (c := 282) (d := 54) (by decide +kernel)
theorem tw_RX5_69 : ai_lok tb_MT RX5 (69, 0, 25, 0, 2) := tw_l_ok tw_C (a := 292) (b := 293) (c := 294) (d := 54) (by decide +kernel)
theorem tw_RX5_84 : ai_lok tb_MT RX5 (84, 0, 1, 1, 0) := tw_l_ok tw_C (a := 422) (b := 423) (c := 424) (d := 53) (by decide +kernel)
theorem tw_RX5_106 : ai_lok tb_MT RX5 (106, 0, 5, 0, 0) := tw_l_ok tw_C (a := 438) (b := 439) (c := 440) (d := 53) (by decide +kernel)
theorem tw_RX5_110 : ai_lok tb_MT RX5 (110, 0, 7, 0, 0) := tw_l_ok tw_C (a := 446) (b := 447) (c := 448) (d := 53) (by decide +kernel)
theorem tw_RX5_113 : ai_lok tb_MT RX5 (113, 0, 2, 1, 0) := tw_l_ok tw_C (a := 458) (b := 419) (c := 420) (d := 53) (by decide +kernel)
theorem tw_RX5_129 : ai_lok tb_MT RX5 (129, 0, 11, 1, 0) := tw_l_ok tw_C (a := 459) (b := 460) (c := 461) (d := 53) (by decide +kernel)
theorem tw_RX5_136 : ai_lok tb_MT RX5 (136, 1, 55, 5, 0) := tw_l_ok tw_C (a := 477) (b := 478) (c := 52) (d := 0) (by decide +kernel)
theorem tw_RX5_140 : ai_lok tb_MT RX5 (140, 0, 54, 2, 5) := tw_l_ok tw_C (a := 480) (b := 482) (c := 14) (d := 52) (by decide +kernel)
theorem tw_RX5_144 : ai_lok tb_MT RX5 (144, 0, 12, 1, 0) := tw_l_ok tw_C (a := 504) (b := 505) (c := 506) (d := 53) (by decide +kernel)
theorem tw_RX5_147 : ai_lok tb_MT RX5 (147, 0, 13, 1, 0) := tw_l_ok tw_C (a := 509) (b := 510) (c := 511) (d := 53) (by decide +kernel)
theorem tw_RX5_150 : ai_lok tb_MT RX5 (150, 0, 14, 0, 0) := tw_l_ok tw_C (a := 521) (b := 522) (c := 523) (d := 53) (by decide +kernel)
theorem tw_RX5_153 : ai_lok tb_MT RX5 (153, 0, 16, 0, 0) := tw_l_ok tw_C (a := 529) (b := 530) (c := 531) (d := 53) (by decide +kernel)
theorem tw_RX5_156 : ai_lok tb_MT RX5 (156, 0, 17, 3, 0) := tw_l_ok tw_C (a := 548) (b := 549) (c := 550) (d := 53) (by decide +kernel)
theorem tw_RX5_160 : ai_lok tb_MT RX5 (160, 1, 66, 2, 0) := tw_l_ok tw_C (a := 556) (b := 557) (c := 52) (d := 0) (by decide +kernel)
theorem tw_RX5_164 : ai_lok tb_MT RX5 (164, 0, 68, 1, 5) := tw_l_ok tw_C (a := 563) (b := 565) (c := 15) (d := 52) (by decide +kernel)
theorem tw_RX5_167 : ai_lok tb_MT RX5 (167, 0, 70, 3, 5) := tw_l_ok tw_C (a := 571) (b := 573) (c := 17) (d := 52) (by decide +kernel)
theorem tw_RX5_170 : ai_lok tb_MT RX5 (170, 0, 69, 2, 5) := tw_l_ok tw_C (a := 567) (b := 569) (c := 16) (d := 52) (by decide +kernel)
theorem tw_RX5_174 : ai_lok tb_MT RX5 (174, 0, 6, 0, 0) := tw_l_ok tw_C (a := 576) (b := 577) (c := 578) (d := 53) (by decide +kernel)
theorem tw_RX5_177 : ai_lok tb_MT RX5 (177, 0, 15, 1, 0) := tw_l_ok tw_C (a := 575) (b := 534) (c := 535) (d := 53) (by decide +kernel)
theorem tw_RX5_180 : ai_lok tb_MT RX5 (180, 0, 73, 2, 5) := tw_l_ok tw_C (a := 595) (b := 597) (c := 18) (d := 52) (by decide +kernel)
theorem tw_RX5_183 : ai_lok tb_MT RX5 (183, 0, 75, 1, 5) := tw_l_ok tw_C (a := 603) (b := 605) (c := 19) (d := 52) (by decide +kernel)
theorem tw_RX5_186 : ai_lok tb_MT RX5 (186, 0, 78, 4, 5) := tw_l_ok tw_C (a := 611) (b := 613) (c := 20) (d := 52) (by decide +kernel)
theorem tw_RX5_192 : ai_lok tb_MT RX5 (192, 0, 18, 4, 1) := tw_l_ok tw_C (a := 616) (b := 617) (c := 618) (d := 56) (by decide +kernel)
theorem tw_RX5_196 : ai_lok tb_MT RX5 (196, 0, 20, 0, 1) := tw_l_ok tw_C (a := 627) (b := 628) (c := 629) (d := 56) (by decide +kernel)
theorem tw_RX5_200 : ai_lok tb_MT RX5 (200, 0, 22, 2, 1) := tw_l_ok tw_C (a := 631) (b := 632) (c := 633) (d := 56) (by decide +kernel)
theorem tw_RX5_204 : ai_lok tb_MT RX5 (204, 0, 21, 0, 1) := tw_l_ok tw_C (a := 643) (b := 644) (c := 645) (d := 56) (by decide +kernel)
theorem tw_RX5_207 : ai_lok tb_MT RX5 (207, 0, 44, 4, 4) := tw_l_ok tw_C (a := 651) (b := 652) (c := 653) (d := 55) (by decide +kernel)
theorem tw_RX5_210 : ai_lok tb_MT RX5 (210, 0, 45, 1, 4) := tw_l_ok tw_C (a := 663) (b := 664) (c := 665) (d := 55) (by decide +kernel)
theorem tw_RX5_213 : ai_lok tb_MT RX5 (213, 1, 170, 1, 0) := tw_l_ok tw_C (a := 675) (b := 582) (c := 65) (d := 0) (by decide +kernel)
theorem tw_RX5_218 : ai_lok tb_MT RX5 (218, 1, 83, 3, 0) := tw_l_ok tw_C (a := 676) (b := 677) (c := 52) (d := 0) (by decide +kernel)
theorem tw_RX5_221 : ai_lok tb_MT RX5 (221, 1, 95, 2, 0) := tw_l_ok tw_C (a := 679) (b := 408) (c := 52) (d := 0) (by decide +kernel)
theorem tw_RX5_224 : ai_lok tb_MT RX5 (224, 1, 96, 3, 0) := tw_l_ok tw_C (a := 670) (b := 464) (c := 52) (d := 0) (by decide +kernel)
theorem tw_RX5_227 : ai_lok tb_MT RX5 (227, 1, 97, 3, 0) := tw_l_ok tw_C (a := 680) (b := 668) (c := 52) (d := 0) (by decide +kernel)
theorem tw_RX5_230 : ai_lok tb_MT RX5 (230, 4, 0, 2, 0) := tw_l_ok tw_C (a := 466) (b := 467) (c := 64) (d := 0) (by decide +kernel)
theorem tw_RX5_236 : ai_lok tb_MT RX5 (236, 0, 88, 1, 5) := tw_l_ok tw_C (a := 694) (b := 696) (c := 22) (d := 52) (by decide +kernel)
theorem tw_RX5_240 : ai_lok tb_MT RX5 (240, 1, 38, 1, 0) := tw_l_ok tw_C (a := 706) (b := 707) (c := 57) (d := 0) (by decide +kernel)
theorem tw_RX5_241 : ai_lok tb_MT RX5 (241, 0, 40, 3, 3) := tw_l_ok tw_C (a := 709) (b := 710) (c := 711) (d := 57) (by decide +kernel)
theorem tw_RX5_245 : ai_lok tb_MT RX5 (245, 0, 41, 2, 3) := tw_l_ok tw_C (a := 717) (b := 718) (c := 719) (d := 57) (by decide +kernel)
theorem tw_RX5_248 : ai_lok tb_MT RX5 (248, 0, 43, 3, 3) := tw_l_ok tw_C (a := 725) (b := 726) (c := 727) (d := 57) (by decide +kernel)
theorem tw_RX5_251 : ai_lok tb_MT RX5 (251, 0, 42, 3, 3) := tw_l_ok tw_C (a := 733) (b := 734) (c := 735) (d := 57) (by decide +kernel)
theorem tw_RX5_261 : ai_lok tb_MT RX5 (261, 0, 39, 1, 3) := tw_l_ok tw_C (a := 746) (b := 722) (c := 723) (d := 57) (by decide +kernel)
theorem tw_RX5_266 : ai_lok tb_MT RX5 (266, 0, 8, 0, 0) := tw_l_ok tw_C (a := 747) (b := 748) (c := 749) (d := 53) (by decide +kernel)
theorem tw_RX5_269 : ai_lok tb_MT RX5 (269, 0, 9, 0, 0) := tw_l_ok tw_C (a := 751) (b := 752) (c := 753) (d := 53) (by decide +kernel)
theorem tv_ml_RX5 : ∀ q ∈ tb_ml_RX5, ai_lok tb_MT RX5 q := List.forall_mem_cons.mpr ⟨tw_RX5_57, List.forall_mem_cons.mpr ⟨tw_RX5_61, List.forall_mem_cons.mpr ⟨tw_RX5_69, List.forall_mem_cons.mpr ⟨tw_RX5_84, List.forall_mem_cons.mpr ⟨tw_RX5_106, List.forall_mem_cons.mpr ⟨tw_RX5_110, List.forall_mem_cons.mpr ⟨tw_RX5_113, List.forall_mem_cons.mpr ⟨tw_RX5_129, List.forall_mem_cons.mpr ⟨tw_RX5_136, List.forall_mem_cons.mpr ⟨tw_RX5_140, List.forall_mem_cons.mpr ⟨tw_RX5_144, List.forall_mem_cons.mpr ⟨tw_RX5_147, List.forall_mem_cons.mpr ⟨tw_RX5_150, List.forall_mem_cons.mpr ⟨tw_RX5_153, List.forall_mem_cons.mpr ⟨tw_RX5_156, List.forall_mem_cons.mpr ⟨tw_RX5_160, List.forall_mem_cons.mpr ⟨tw_RX5_164, List.forall_mem_cons.mpr ⟨tw_RX5_167, List.forall_mem_cons.mpr ⟨tw_RX5_170, List.forall_mem_cons.mpr ⟨tw_RX5_174, List.forall_mem_cons.mpr ⟨tw_RX5_177, List.forall_mem_cons.mpr ⟨tw_RX5_180, List.forall_mem_cons.mpr ⟨tw_RX5_183, List.forall_mem_cons.mpr ⟨tw_RX5_186, List.forall_mem_cons.mpr ⟨tw_RX5_192, List.forall_mem_cons.mpr ⟨tw_RX5_196, List.forall_mem_cons.mpr ⟨tw_RX5_200, List.forall_mem_cons.mpr ⟨tw_RX5_204, List.forall_mem_cons.mpr ⟨tw_RX5_207, List.forall_mem_cons.mpr ⟨tw_RX5_210, List.forall_mem_cons.mpr ⟨tw_RX5_213, List.forall_mem_cons.mpr ⟨tw_RX5_218, List.forall_mem_cons.mpr ⟨tw_RX5_221, List.forall_mem_cons.mpr ⟨tw_RX5_224, List.forall_mem_cons.mpr ⟨tw_RX5_227, List.forall_mem_cons.mpr ⟨tw_RX5_230, List.forall_mem_cons.mpr ⟨tw_RX5_236, List.forall_mem_cons.mpr ⟨tw_RX5_240, List.forall_mem_cons.mpr ⟨tw_RX5_241, List.forall_mem_cons.mpr ⟨tw_RX5_245, List.forall_mem_cons.mpr ⟨tw_RX5_248, List.forall_mem_cons.mpr ⟨tw_RX5_251, List.forall_mem_cons.mpr ⟨tw_RX5_261, List.forall_mem_cons.mpr ⟨tw_RX5_266, List.forall_mem_cons.mpr ⟨tw_RX5_269, fun _ h => absurd h List.not_mem_nil⟩⟩⟩⟩⟩⟩⟩⟩⟩⟩⟩⟩⟩⟩⟩⟩⟩⟩⟩⟩⟩⟩⟩⟩⟩⟩⟩⟩⟩⟩⟩⟩⟩⟩⟩⟩⟩⟩⟩⟩⟩⟩⟩⟩⟩
theorem tw_RX6_43 : ai_lok tb_MT RX6 (43, 1, 98, 3, 0) := tw_l_ok tw_C (a := 842) (b := 843) (c := 58) (d := 0) (by decide +kernel)
theorem tw_RX6_66 : ai_lok tb_MT RX6 (66, 0, 101, 1, 6) := tw_l_ok tw_C (a := 857) (b := 859) (c := 24) (d := 58) (by decide +kernel)
theorem tw_RX6_81 : ai_lok tb_MT RX6 (81, 0, 102, 1, 6) := tw_l_ok tw_C (a := 865) (b := 867) (c := 25) (d := 58) (by decide +kernel)
theorem tw_RX6_85 : ai_lok tb_MT RX6 (85, 0, 104, 0, 6) := tw_l_ok tw_C (a := 853) (b := 855) (c := 23) (d := 58) (by decide +kernel)
theorem tw_RX6_88 : ai_lok tb_MT RX6 (88, 0, 105, 2, 6) := tw_l_ok tw_C (a := 882) (b := 884) (c := 29) (d := 58) (by decide +kernel)
theorem tw_RX6_98 : ai_lok tb_MT RX6 (98, 0, 103, 0, 6) := tw_l_ok tw_C (a := 873) (b := 875) (c := 27) (d := 58) (by decide +kernel)
theorem tw_RX6_107 : ai_lok tb_MT RX6 (107, 0, 107, 1, 6) := tw_l_ok tw_C (a := 878) (b := 880) (c := 28) (d := 58) (by decide +kernel)
theorem tw_RX6_110 : ai_lok tb_MT RX6 (110, 0, 106, 0, 6) := tw_l_ok tw_C (a := 886) (b := 888) (c := 30) (d := 58) (by decide +kernel)
theorem tw_RX6_113 : ai_lok tb_MT RX6 (113, 0, 108, 0, 6) := tw_l_ok tw_C (a := 869) (b := 871) (c := 26) (d := 58) (by decide +kernel)
theorem tw_RX6_125 : ai_lok tb_MT RX6 (125, 0, 113, 1, 6) := tw_l_ok tw_C (a := 898) (b := 900) (c := 31) (d := 58) (by decide +kernel)
theorem tw_RX6_128 : ai_lok tb_MT RX6 (128, 1, 112, 3, 0) := tw_l_ok tw_C (a := 927) (b := 928) (c := 58) (d := 0) (by decide +kernel)
theorem tw_RX6_132 : ai_lok tb_MT RX6 (132, 0, 115, 2, 6) := tw_l_ok tw_C (a := 906) (b := 908) (c := 33) (d := 58) (by decide +kernel)
theorem tw_RX6_136 : ai_lok tb_MT RX6 (136, 0, 116, 1, 6) := tw_l_ok tw_C (a := 902) (b := 904) (c := 32) (d := 58) (by decide +kernel)
theorem tw_RX6_139 : ai_lok tb_MT RX6 (139, 0, 117, 1, 6) := tw_l_ok tw_C (a := 910) (b := 912) (c := 34) (d := 58) (by decide +kernel)
theorem tw_RX6_142 : ai_lok tb_MT RX6 (142, 0, 111, 1, 6) := tw_l_ok tw_C (a := 918) (b := 920) (c := 35) (d := 58) (by decide +kernel)
theorem tw_RX6_148 : ai_lok tb_MT RX6 (148, 0, 114, 2, 6) := tw_l_ok tw_C (a := 923) (b := 925) (c := 36) (d := 58) (by decide +kernel)
theorem tw_RX6_155 : ai_lok tb_MT RX6 (155, 0, 121, 4, 6) := tw_l_ok tw_C (a := 940) (b := 942) (c := 37) (d := 58) (by decide +kernel)
theorem tw_RX6_161 : ai_lok tb_MT RX6 (161, 0, 129, 1, 6) := tw_l_ok tw_C (a := 981) (b := 983) (c := 41) (d := 58) (by decide +kernel)
theorem tw_RX6_164 : ai_lok tb_MT RX6 (164, 0, 127, 2, 6) := tw_l_ok tw_C (a := 969) (b := 971) (c := 39) (d := 58) (by decide +kernel)
theorem tw_RX6_167 : ai_lok tb_MT RX6 (167, 0, 128, 3, 6) := tw_l_ok tw_C (a := 973) (b := 975) (c := 40) (d := 58) (by decide +kernel)
theorem tw_RX6_171 : ai_lok tb_MT RX6 (171, 0, 131, 1, 6) := tw_l_ok tw_C (a := 965) (b := 967) (c := 38) (d := 58) (by decide +kernel)
theorem tw_RX6_174 : ai_lok tb_MT RX6 (174, 0, 134, 2, 6) := tw_l_ok tw_C (a := 993) (b := 995) (c := 43) (d := 58) (by decide +kernel)
theorem tw_RX6_181 : ai_lok tb_MT RX6 (181, 0, 130, 2, 6) := tw_l_ok tw_C (a := 997) (b := 999) (c := 44) (d := 58) (by decide +kernel)
theorem tw_RX6_184 : ai_lok tb_MT RX6 (184, 0, 135, 1, 6) := tw_l_ok tw_C (a := 989) (b := 991) (c := 42) (d := 58) (by decide +kernel)
theorem tw_RX6_187 : ai_lok tb_MT RX6 (187, 0, 136, 0, 6) := tw_l_ok tw_C (a := 1001) (b := 1003) (c := 45) (d := 58) (by decide +kernel)
theorem tw_RX6_190 : ai_lok tb_MT RX6 (190, 0, 139, 1, 6) := tw_l_ok tw_C (a := 1013) (b := 1015) (c := 46) (d := 58) (by decide +kernel)
theorem tw_RX6_193 : ai_lok tb_MT RX6 (193, 1, 143, 1, 0) := tw_l_ok tw_C (a := 1027) (b := 1028) (c := 58) (d := 0) (by decide +kernel)
theorem tw_RX6_196 : ai_lok tb_MT RX6 (196, 1, 144, 3, 0) := tw_l_ok tw_C (a := 1034) (b := 1035) (c := 58) (d := 0) (by decide +kernel)
theorem tw_RX6_203 : ai_lok tb_MT RX6 (203, 0, 145, 2, 6) := tw_l_ok tw_C (a := 1030) (b := 1032) (c := 47) (d := 58) (by decide +kernel)
theorem tw_RX6_206 : ai_lok tb_MT RX6 (206, 1, 142, 1, 0) := tw_l_ok tw_C (a := 1037) (b := 1038) (c := 58) (d := 0) (by decide +kernel)
theorem tw_RX6_209 : ai_lok tb_MT RX6 (209, 1, 150, 3, 0) := tw_l_ok tw_C (a := 1065) (b := 1066) (c := 58) (d := 0) (by decide +kernel)
theorem tw_RX6_215 : ai_lok tb_MT RX6 (215, 0, 152, 4, 6) := tw_l_ok tw_C (a := 1056) (b := 1058) (c := 48) (d := 58) (by decide +kernel)
theorem tw_RX6_219 : ai_lok tb_MT RX6 (219, 0, 151, 5, 6) := tw_l_ok tw_C (a := 1061) (b := 1063) (c := 49) (d := 58) (by decide +kernel)
theorem tw_RX6_225 : ai_lok tb_MT RX6 (225, 0, 157, 1, 6) := tw_l_ok tw_C (a := 1085) (b := 1087) (c := 50) (d := 58) (by decide +kernel)
theorem tv_ml_RX6 : ∀ q ∈ tb_ml_RX6, ai_lok tb_MT RX6 q := List.forall_mem_cons.mpr ⟨tw_RX6_43, List.forall_mem_cons.mpr ⟨tw_RX6_66, List.forall_mem_cons.mpr ⟨tw_RX6_81, List.forall_mem_cons.mpr ⟨tw_RX6_85, List.forall_mem_cons.mpr ⟨tw_RX6_88, List.forall_mem_cons.mpr ⟨tw_RX6_98, List.forall_mem_cons.mpr ⟨tw_RX6_107, List.forall_mem_cons.mpr ⟨tw_RX6_110, List.forall_mem_cons.mpr ⟨tw_RX6_113, List.forall_mem_cons.mpr ⟨tw_RX6_125, List.forall_mem_cons.mpr ⟨tw_RX6_128, List.forall_mem_cons.mpr ⟨tw_RX6_132, List.forall_mem_cons.mpr ⟨tw_RX6_136, List.forall_mem_cons.mpr ⟨tw_RX6_139, List.forall_mem_cons.mpr ⟨tw_RX6_142, List.forall_mem_cons.mpr ⟨tw_RX6_148, List.forall_mem_cons.mpr ⟨tw_RX6_155, List.forall_mem_cons.mpr ⟨tw_RX6_161, List.forall_mem_cons.mpr ⟨tw_RX6_164, List.forall_mem_cons.mpr ⟨tw_RX6_167, List.forall_mem_cons.mpr ⟨tw_RX6_171, List.forall_mem_cons.mpr ⟨tw_RX6_174, List.forall_mem_cons.mpr ⟨tw_RX6_181, List.forall_mem_cons.mpr ⟨tw_RX6_184, List.forall_mem_cons.mpr ⟨tw_RX6_187, List.forall_mem_cons.mpr ⟨tw_RX6_190, List.forall_mem_cons.mpr ⟨tw_RX6_193, List.forall_mem_cons.mpr ⟨tw_RX6_196, List.forall_mem_cons.mpr ⟨tw_RX6_203, List.forall_mem_cons.mpr ⟨tw_RX6_206, List.forall_mem_cons.mpr ⟨tw_RX6_209, List.forall_mem_cons.mpr ⟨tw_RX6_215, List.forall_mem_cons.mpr ⟨tw_RX6_219, List.forall_mem_cons.mpr ⟨tw_RX6_225, fun _ h => absurd h List.not_mem_nil⟩⟩⟩⟩⟩⟩⟩⟩⟩⟩⟩⟩⟩⟩⟩⟩⟩⟩⟩⟩⟩⟩⟩⟩⟩⟩⟩⟩⟩⟩⟩⟩⟩⟩
theorem tw_RL_13 : ai_lok tb_MT RL (13, 0, 46, 1, 5) := tw_l_ok tw_C (a := 273) (b := 274) (c := 275) (d := 52) (by decide +kernel)
theorem tw_RL_17 : ai_lok tb_MT RL (17, 0, 99, 1, 6) := tw_l_ok tw_C (a := 837) (b := 838) (c := 839) (d := 58) (by decide +kernel)
theorem tw_RL_18 : ai_lok tb_MT RL (18, 0, 47, 1, 5) := tw_l_ok tw_C (a := 284) (b := 285) (c := 286) (d := 52) (by decide +kernel)
theorem tw_RL_21 : ai_lok tb_MT RL (21, 0, 100, 1, 6) := tw_l_ok tw_C (a := 845) (b := 846) (c := 847) (d := 58) (by decide +kernel)
theorem tw_RL_22 : ai_lok tb_MT RL (22, 0, 48, 0, 5) := tw_l_ok tw_C (a := 288) (b := 289) (c := 290) (d := 52) (by decide +kernel)
theorem tw_RL_26 : ai_lok tb_MT RL (26, 0, 109, 0, 6) := tw_l_ok tw_C (a := 849) (b := 850) (c := 851) (d := 58) (by decide +kernel)
theorem tw_RL_27 : ai_lok tb_MT RL (27, 0, 49, 0, 5) := tw_l_ok tw_C (a := 430) (b := 431) (c := 432) (d := 52) (by decide +kernel)
theorem tw_RL_30 : ai_lok tb_MT RL (30, 0, 110, 0, 6) := tw_l_ok tw_C (a := 890) (b := 891) (c := 892) (d := 58) (by decide +kernel)
theorem tw_RL_31 : ai_lok tb_MT RL (31, 0, 50, 1, 5) := tw_l_ok tw_C (a := 434) (b := 435) (c := 436) (d := 52) (by decide +kernel)
theorem tw_RL_34 : ai_lok tb_MT RL (34, 0, 118, 1, 6) := tw_l_ok tw_C (a := 894) (b := 895) (c := 896) (d := 58) (by decide +kernel)
theorem tw_RL_35 : ai_lok tb_MT RL (35, 0, 51, 2, 5) := tw_l_ok tw_C (a := 454) (b := 455) (c := 456) (d := 52) (by decide +kernel)
theorem tw_RL_39 : ai_lok tb_MT RL (39, 0, 119, 2, 6) := tw_l_ok tw_C (a := 914) (b := 915) (c := 916) (d := 58) (by decide +kernel)
theorem tw_RL_40 : ai_lok tb_MT RL (40, 0, 52, 1, 5) := tw_l_ok tw_C (a := 469) (b := 470) (c := 471) (d := 52) (by decide +kernel)
theorem tw_RL_43 : ai_lok tb_MT RL (43, 0, 120, 1, 6) := tw_l_ok tw_C (a := 930) (b := 931) (c := 932) (d := 58) (by decide +kernel)
theorem tw_RL_44 : ai_lok tb_MT RL (44, 0, 53, 3, 5) := tw_l_ok tw_C (a := 473) (b := 474) (c := 475) (d := 52) (by decide +kernel)
theorem tw_RL_48 : ai_lok tb_MT RL (48, 0, 122, 3, 6) := tw_l_ok tw_C (a := 934) (b := 935) (c := 936) (d := 58) (by decide +kernel)
theorem tw_RL_49 : ai_lok tb_MT RL (49, 0, 56, 1, 5) := tw_l_ok tw_C (a := 484) (b := 485) (c := 486) (d := 52) (by decide +kernel)
theorem tw_RL_52 : ai_lok tb_MT RL (52, 0, 123, 1, 6) := tw_l_ok tw_C (a := 944) (b := 945) (c := 946) (d := 58) (by decide +kernel)
theorem tw_RL_53 : ai_lok tb_MT RL (53, 0, 57, 1, 5) := tw_l_ok tw_C (a := 488) (b := 489) (c := 490) (d := 52) (by decide +kernel)
theorem tw_RL_56 : ai_lok tb_MT RL (56, 0, 124, 1, 6) := tw_l_ok tw_C (a := 949) (b := 950) (c := 951) (d := 58) (by decide +kernel)
theorem tw_RL_57 : ai_lok tb_MT RL (57, 0, 58, 1, 5) := tw_l_ok tw_C (a := 492) (b := 493) (c := 494) (d := 52) (by decide +kernel)
theorem tw_RL_60 : ai_lok tb_MT RL (60, 0, 125, 1, 6) := tw_l_ok tw_C (a := 953) (b := 954) (c := 955) (d := 58) (by decide +kernel)
theorem tw_RL_61 : ai_lok tb_MT RL (61, 0, 59, 1, 5) := tw_l_ok tw_C (a := 496) (b := 497) (c := 498) (d := 52) (by decide +kernel)
theorem tw_RL_64 : ai_lok tb_MT RL (64, 0, 126, 1, 6) := tw_l_ok tw_C (a := 957) (b := 958) (c := 959) (d := 58) (by decide +kernel)
theorem tw_RL_65 : ai_lok tb_MT RL (65, 0, 60, 1, 5) := tw_l_ok tw_C (a := 500) (b := 501) (c := 502) (d := 52) (by decide +kernel)
theorem tw_RL_68 : ai_lok tb_MT RL (68, 0, 132, 1, 6) := tw_l_ok tw_C (a := 961) (b := 962) (c := 963) (d := 58) (by decide +kernel)
theorem tw_RL_69 : ai_lok tb_MT RL (69, 0, 61, 1, 5) := tw_l_ok tw_C (a := 517) (b := 518) (c := 519) (d := 52) (by decide +kernel)
theorem tw_RL_72 : ai_lok tb_MT RL (72, 0, 133, 1, 6) := tw_l_ok tw_C (a := 977) (b := 978) (c := 979) (d := 58) (by decide +kernel)
theorem tw_RL_73 : ai_lok tb_MT RL (73, 0, 62, 1, 5) := tw_l_ok tw_C (a := 525) (b := 526) (c := 527) (d := 52) (by decide +kernel)
theorem tw_RL_76 : ai_lok tb_MT RL (76, 0, 137, 1, 6) := tw_l_ok tw_C (a := 985) (b := 986) (c := 987) (d := 58) (by decide +kernel)
theorem tw_RL_77 : ai_lok tb_MT RL (77, 0, 63, 1, 5) := tw_l_ok tw_C (a := 540) (b := 541) (c := 542) (d := 52) (by decide +kernel)
theorem tw_RL_80 : ai_lok tb_MT RL (80, 0, 138, 1, 6) := tw_l_ok tw_C (a := 1005) (b := 1006) (c := 1007) (d := 58) (by decide +kernel)
theorem tw_RL_81 : ai_lok tb_MT RL (81, 0, 64, 1, 5) := tw_l_ok tw_C (a := 544) (b := 545) (c := 546) (d := 52) (by decide +kernel)
theorem tw_RL_84 : ai_lok tb_MT RL (84, 0, 140, 1, 6) := tw_l_ok tw_C (a := 1009) (b := 1010) (c := 1011) (d := 58) (by decide +kernel)
theorem tw_RL_85 : ai_lok tb_MT RL (85, 0, 65, 2, 5) := tw_l_ok tw_C (a := 552) (b := 553) (c := 554) (d := 52) (by decide +kernel)
theorem tw_RL_88 : ai_lok tb_MT RL (88, 0, 141, 2, 6) := tw_l_ok tw_C (a := 1017) (b := 1018) (c := 1019) (d := 58) (by decide +kernel)
theorem tw_RL_89 : ai_lok tb_MT RL (89, 0, 67, 2, 5) := tw_l_ok tw_C (a := 559) (b := 560) (c := 561) (d := 52) (by decide +kernel)
theorem tw_RL_92 : ai_lok tb_MT RL (92, 0, 146, 2, 6) := tw_l_ok tw_C (a := 1021) (b := 1022) (c := 1023) (d := 58) (by decide +kernel)
theorem tw_RL_93 : ai_lok tb_MT RL (93, 0, 71, 2, 5) := tw_l_ok tw_C (a := 587) (b := 588) (c := 589) (d := 52) (by decide +kernel)
theorem tw_RL_96 : ai_lok tb_MT RL (96, 0, 147, 2, 6) := tw_l_ok tw_C (a := 1040) (b := 1041) (c := 1042) (d := 58) (by decide +kernel)
theorem tw_RL_97 : ai_lok tb_MT RL (97, 0, 72, 1, 5) := tw_l_ok tw_C (a := 591) (b := 592) (c := 593) (d := 52) (by decide +kernel)
theorem tw_RL_100 : ai_lok tb_MT RL (100, 0, 148, 1, 6) := tw_l_ok tw_C (a := 1044) (b := 1045) (c := 1046) (d := 58) (by decide +kernel)
theorem tw_RL_101 : ai_lok tb_MT RL (101, 0, 74, 1, 5) := tw_l_ok tw_C (a := 599) (b := 600) (c := 601) (d := 52) (by decide +kernel)
theorem tw_RL_104 : ai_lok tb_MT RL (104, 0, 149, 1, 6) := tw_l_ok tw_C (a := 1048) (b := 1049) (c := 1050) (d := 58) (by decide +kernel)
theorem tw_RL_105 : ai_lok tb_MT RL (105, 0, 76, 4, 5) := tw_l_ok tw_C (a := 607) (b := 608) (c := 609) (d := 52) (by decide +kernel)
theorem tw_RL_109 : ai_lok tb_MT RL (109, 0, 153, 4, 6) := tw_l_ok tw_C (a := 1052) (b := 1053) (c := 1054) (d := 58) (by decide +kernel)
theorem tw_RL_110 : ai_lok tb_MT RL (110, 0, 77, 4, 5) := tw_l_ok tw_C (a := 639) (b := 640) (c := 641) (d := 52) (by decide +kernel)
theorem tw_RL_113 : ai_lok tb_MT RL (113, 0, 154, 4, 6) := tw_l_ok tw_C (a := 1069) (b := 1070) (c := 1071) (d := 58) (by decide +kernel)
theorem tw_RL_114 : ai_lok tb_MT RL (114, 0, 79, 4, 5) := tw_l_ok tw_C (a := 647) (b := 648) (c := 649) (d := 52) (by decide +kernel)
theorem tw_RL_118 : ai_lok tb_MT RL (118, 0, 155, 4, 6) := tw_l_ok tw_C (a := 1073) (b := 1074) (c := 1075) (d := 58) (by decide +kernel)
theorem tw_RL_119 : ai_lok tb_MT RL (119, 0, 80, 1, 5) := tw_l_ok tw_C (a := 655) (b := 656) (c := 657) (d := 52) (by decide +kernel)
theorem tw_RL_122 : ai_lok tb_MT RL (122, 0, 156, 1, 6) := tw_l_ok tw_C (a := 1077) (b := 1078) (c := 1079) (d := 58) (by decide +kernel)
theorem tw_RL_123 : ai_lok tb_MT RL (123, 0, 81, 1, 5) := tw_l_ok tw_C (a := 659) (b := 660) (c := 661) (d := 52) (by decide +kernel)
theorem tw_RL_126 : ai_lok tb_MT RL (126, 0, 158, 1, 6) := tw_l_ok tw_C (a := 1081) (b := 1082) (c := 1083) (d := 58) (by decide +kernel)
theorem tw_RL_127 : ai_lok tb_MT RL (127, 0, 82, 2, 5) := tw_l_ok tw_C (a := 671) (b := 672) (c := 673) (d := 52) (by decide +kernel)
theorem tw_RL_130 : ai_lok tb_MT RL (130, 0, 159, 2, 6) := tw_l_ok tw_C (a := 1089) (b := 1090) (c := 1091) (d := 58) (by decide +kernel)
theorem tw_RL_131 : ai_lok tb_MT RL (131, 0, 84, 4, 5) := tw_l_ok tw_C (a := 681) (b := 682) (c := 683) (d := 52) (by decide +kernel)
theorem tw_RL_134 : ai_lok tb_MT RL (134, 0, 160, 4, 6) := tw_l_ok tw_C (a := 1093) (b := 1094) (c := 1095) (d := 58) (by decide +kernel)
theorem tw_RL_135 : ai_lok tb_MT RL (135, 0, 85, 3, 5) := tw_l_ok tw_C (a := 685) (b := 686) (c := 687) (d := 52) (by decide +kernel)
theorem tw_RL_138 : ai_lok tb_MT RL (138, 0, 161, 3, 6) := tw_l_ok tw_C (a := 1098) (b := 1099) (c := 1100) (d := 58) (by decide +kernel)
theorem tw_RL_139 : ai_lok tb_MT RL (139, 0, 86, 1, 5) := tw_l_ok tw_C (a := 690) (b := 691) (c := 692) (d := 52) (by decide +kernel)
theorem tw_RL_142 : ai_lok tb_MT RL (142, 0, 162, 1, 6) := tw_l_ok tw_C (a := 1104) (b := 1105) (c := 1106) (d := 58) (by decide +kernel)
theorem tw_RL_143 : ai_lok tb_MT RL (143, 0, 87, 1, 5) := tw_l_ok tw_C (a := 698) (b := 699) (c := 700) (d := 52) (by decide +kernel)
theorem tw_RL_146 : ai_lok tb_MT RL (146, 0, 163, 1, 6) := tw_l_ok tw_C (a := 1108) (b := 1109) (c := 1110) (d := 58) (by decide +kernel)
theorem tw_RL_147 : ai_lok tb_MT RL (147, 0, 89, 3, 5) := tw_l_ok tw_C (a := 702) (b := 703) (c := 704) (d := 52) (by decide +kernel)
theorem tw_RL_150 : ai_lok tb_MT RL (150, 0, 164, 3, 6) := tw_l_ok tw_C (a := 1112) (b := 1113) (c := 1114) (d := 58) (by decide +kernel)
theorem tw_RL_151 : ai_lok tb_MT RL (151, 0, 90, 3, 5) := tw_l_ok tw_C (a := 713) (b := 714) (c := 715) (d := 52) (by decide +kernel)
theorem tw_RL_154 : ai_lok tb_MT RL (154, 0, 165, 3, 6) := tw_l_ok tw_C (a := 1116) (b := 1117) (c := 1118) (d := 58) (by decide +kernel)
theorem tw_RL_155 : ai_lok tb_MT RL (155, 0, 91, 4, 5) := tw_l_ok tw_C (a := 729) (b := 730) (c := 731) (d := 52) (by decide +kernel)
theorem tw_RL_158 : ai_lok tb_MT RL (158, 0, 166, 4, 6) := tw_l_ok tw_C (a := 1120) (b := 1121) (c := 1122) (d := 58) (by decide +kernel)
theorem tw_RL_159 : ai_lok tb_MT RL (159, 0, 92, 0, 5) := tw_l_ok tw_C (a := 738) (b := 739) (c := 740) (d := 52) (by decide +kernel)
theorem tw_RL_162 : ai_lok tb_MT RL (162, 0, 167, 0, 6) := tw_l_ok tw_C (a := 1124) (b := 1125) (c := 1126) (d := 58) (by decide +kernel)
theorem tw_RL_163 : ai_lok tb_MT RL (163, 0, 93, 1, 5) := tw_l_ok tw_C (a := 742) (b := 743) (c := 744) (d := 52) (by decide +kernel)
theorem tw_RL_166 : ai_lok tb_MT RL (166, 0, 168, 1, 6) := tw_l_ok tw_C (a := 1128) (b := 1129) (c := 1130) (d := 58) (by decide +kernel)
theorem tv_ml_RL : ∀ q ∈ tb_ml_RL, ai_lok tb_MT RL q := List.forall_mem_cons.mpr ⟨tw_RL_13, List.forall_mem_cons.mpr ⟨tw_RL_17, List.forall_mem_cons.mpr ⟨tw_RL_18, List.forall_mem_cons.mpr ⟨tw_RL_21, List.forall_mem_cons.mpr ⟨tw_RL_22, List.forall_mem_cons.mpr ⟨tw_RL_26, List.forall_mem_cons.mpr ⟨tw_RL_27, List.forall_mem_cons.mpr ⟨tw_RL_30, List.forall_mem_cons.mpr ⟨tw_RL_31, List.forall_mem_cons.mpr ⟨tw_RL_34, List.forall_mem_cons.mpr ⟨tw_RL_35, List.forall_mem_cons.mpr ⟨tw_RL_39, List.forall_mem_cons.mpr ⟨tw_RL_40, List.forall_mem_cons.mpr ⟨tw_RL_43, List.forall_mem_cons.mpr ⟨tw_RL_44, List.forall_mem_cons.mpr ⟨tw_RL_48, List.forall_mem_cons.mpr ⟨tw_RL_49, List.forall_mem_cons.mpr ⟨tw_RL_52, List.forall_mem_cons.mpr ⟨tw_RL_53, List.forall_mem_cons.mpr ⟨tw_RL_56, List.forall_mem_cons.mpr ⟨tw_RL_57, List.forall_mem_cons.mpr ⟨tw_RL_60, List.forall_mem_cons.mpr ⟨tw_RL_61, List.forall_mem_cons.mpr ⟨tw_RL_64, List.forall_mem_cons.mpr ⟨tw_RL_65, List.forall_mem_cons.mpr ⟨tw_RL_68, List.forall_mem_cons.mpr ⟨tw_RL_69, List.forall_mem_cons.mpr ⟨tw_RL_72, List.forall_mem_cons.mpr ⟨tw_RL_73, List.forall_mem_cons.mpr ⟨tw_RL_76, List.forall_mem_cons.mpr ⟨tw_RL_77, List.forall_mem_cons.mpr ⟨tw_RL_80, List.forall_mem_cons.mpr ⟨tw_RL_81, List.forall_mem_cons.mpr ⟨tw_RL_84, List.forall_mem_cons.mpr ⟨tw_RL_85, List.forall_mem_cons.mpr ⟨tw_RL_88, List.forall_mem_cons.mpr ⟨tw_RL_89, List.forall_mem_cons.mpr ⟨tw_RL_92, List.forall_mem_cons.mpr ⟨tw_RL_93, List.forall_mem_cons.mpr ⟨tw_RL_96, List.forall_mem_cons.mpr ⟨tw_RL_97, List.forall_mem_cons.mpr ⟨tw_RL_100, List.forall_mem_cons.mpr ⟨tw_RL_101, List.forall_mem_cons.mpr ⟨tw_RL_104, List.forall_mem_cons.mpr ⟨tw_RL_105, List.forall_mem_cons.mpr ⟨tw_RL_109, List.forall_mem_cons.mpr ⟨tw_RL_110, List.forall_mem_cons.mpr ⟨tw_RL_113, List.forall_mem_cons.mpr ⟨tw_RL_114, List.forall_mem_cons.mpr ⟨tw_RL_118, List.forall_mem_cons.mpr ⟨tw_RL_119, List.forall_mem_cons.mpr ⟨tw_RL_122, List.forall_mem_cons.mpr ⟨tw_RL_123, List.forall_mem_cons.mpr ⟨tw_RL_126, List.forall_mem_cons.mpr ⟨tw_RL_127, List.forall_mem_cons.mpr ⟨tw_RL_130, List.forall_mem_cons.mpr ⟨tw_RL_131, List.forall_mem_cons.mpr ⟨tw_RL_134, List.forall_mem_cons.mpr ⟨tw_RL_135, List.forall_mem_cons.mpr ⟨tw_RL_138, List.forall_mem_cons.mpr ⟨tw_RL_139, List.forall_mem_cons.mpr ⟨tw_RL_142, List.forall_mem_cons.mpr ⟨tw_RL_143, List.forall_mem_cons.mpr ⟨tw_RL_146, List.forall_mem_cons.mpr ⟨tw_RL_147, List.forall_mem_cons.mpr ⟨tw_RL_150, List.forall_mem_cons.mpr ⟨tw_RL_151, List.forall_mem_cons.mpr ⟨tw_RL_154, List.forall_mem_cons.mpr ⟨tw_RL_155, List.forall_mem_cons.mpr ⟨tw_RL_158, List.forall_mem_cons.mpr ⟨tw_RL_159, List.forall_mem_cons.mpr ⟨tw_RL_162, List.forall_mem_cons.mpr ⟨tw_RL_163, List.forall_mem_cons.mpr ⟨tw_RL_166, fun _ h => absurd h List.not_mem_nil⟩⟩⟩⟩⟩⟩⟩⟩⟩⟩⟩⟩⟩⟩⟩⟩⟩⟩⟩⟩⟩⟩⟩⟩⟩⟩⟩⟩⟩⟩⟩⟩⟩⟩⟩⟩⟩⟩⟩⟩⟩⟩⟩⟩⟩⟩⟩⟩⟩⟩⟩⟩⟩⟩⟩⟩⟩⟩⟩⟩⟩⟩⟩⟩⟩⟩⟩⟩⟩⟩⟩⟩⟩⟩
theorem tv_ml_RJ6 : ∀ q ∈ tb_ml_RJ6, ai_lok tb_MT RJ6 q := fun _ h => absurd h List.not_mem_nil
end
section
/-! the instructions of the methods -/
theorem tv_i0 : ∀ q ∈ tb_i0, decode cX0_clear q.1 = .ok (q.2.1, q.2.2) := by decide +kernel
theorem tv_i1 : ∀ q ∈ tb_i1, decode cX0_become q.1 = .ok (q.2.1, q.2.2) := by decide +kernel
theorem tv_i2 : ∀ q ∈ tb_i2, decode cX0_has q.1 = .ok (q.2.1, q.2.2) := by decide +kernel
theorem tv_i3 : ∀ q ∈ tb_i3, decode cX0_addTest q.1 = .ok (q.2.1, q.2.2) := by decide +kernel
theorem tv_i4 : ∀ q ∈ tb_i4, decode cX0_isWon q.1 = .ok (q.2.1, q.2.2) := by decide +kernel
theorem tv_i5 : ∀ q ∈ tb_i5, decode cX0_wonBits q.1 = .ok (q.2.1, q.2.2) := by decide +kernel
theorem tv_i6 : ∀ q ∈ tb_i6, decode cX0_wonCount q.1 = .ok (q.2.1, q.2.2) := by decide +kernel
theorem tv_i7 : ∀ q ∈ tb_i7, decode cX0_allMoved q.1 = .ok (q.2.1, q.2.2) := by decide +kernel
theorem tv_i8 : ∀ q ∈ tb_i8, decode cX0_allSizes q.1 = .ok (q.2.1, q.2.2) := by decide +kernel
theorem tv_i9 : ∀ q ∈ tb_i9, decode cX0_allPulled q.1 = .ok (q.2.1, q.2.2) := by decide +kernel
theorem tv_i10 : ∀ q ∈ tb_i10, decode cX0_sumOf q.1 = .ok (q.2.1, q.2.2) := by decide +kernel
theorem tv_i11 : ∀ q ∈ tb_i11, decode cX0_yieldOf q.1 = .ok (q.2.1, q.2.2) := by decide +kernel
theorem tv_i12 : ∀ q ∈ tb_i12, decode cX0_canPull q.1 = .ok (q.2.1, q.2.2) := by decide +kernel
theorem tv_i13 : ∀ q ∈ tb_i13, decode cX0_pullAt q.1 = .ok (q.2.1, q.2.2) := by decide +kernel
theorem tv_i14 : ∀ q ∈ tb_i14, decode cX0_restOnce q.1 = .ok (q.2.1, q.2.2) := by decide +kernel
theorem tv_i15 : ∀ q ∈ tb_i15, decode cX0_perform q.1 = .ok (q.2.1, q.2.2) := by decide +kernel
theorem tv_i16 : ∀ q ∈ tb_i16, decode cX0_runPlan q.1 = .ok (q.2.1, q.2.2) := by decide +kernel
theorem tv_i17 : ∀ q ∈ tb_i17, decode cX0_pullsAlone q.1 = .ok (q.2.1, q.2.2) := by decide +kernel
theorem tv_i18 : ∀ q ∈ tb_i18, decode cX1_spread q.1 = .ok (q.2.1, q.2.2) := by decide +kernel
theorem tv_i19 : ∀ q ∈ tb_i19, decode cX1_spreadOnce q.1 = .ok (q.2.1, q.2.2) := by decide +kernel
theorem tv_i20 : ∀ q ∈ tb_i20, decode cX1_waysWon q.1 = .ok (q.2.1, q.2.2) := by decide +kernel
theorem tv_i21 : ∀ q ∈ tb_i21, decode cX1_movedInAllWays q.1 = .ok (q.2.1, q.2.2) := by decide +kernel
theorem tv_i22 : ∀ q ∈ tb_i22, decode cX1_lowest q.1 = .ok (q.2.1, q.2.2) := by decide +kernel
theorem tv_i23 : ∀ q ∈ tb_i23, decode cX1_commonDivisor q.1 = .ok (q.2.1, q.2.2) := by decide +kernel
theorem tv_i24 : ∀ q ∈ tb_i24, decode cX2_write q.1 = .ok (q.2.1, q.2.2) := by decide +kernel
theorem tv_i25 : ∀ q ∈ tb_i25, decode cX2_readAll q.1 = .ok (q.2.1, q.2.2) := by decide +kernel
theorem tv_i26 : ∀ q ∈ tb_i26, decode cX2_readLine q.1 = .ok (q.2.1, q.2.2) := by decide +kernel
theorem tv_i27 : ∀ q ∈ tb_i27, decode cX2_readTest q.1 = .ok (q.2.1, q.2.2) := by decide +kernel
theorem tv_i28 : ∀ q ∈ tb_i28, decode cX2_readOnce q.1 = .ok (q.2.1, q.2.2) := by decide +kernel
theorem tv_i29 : ∀ q ∈ tb_i29, decode cX2_readPlan q.1 = .ok (q.2.1, q.2.2) := by decide +kernel
theorem tv_i30 : ∀ q ∈ tb_i30, decode cX2_plansMissingTest q.1 = .ok (q.2.1, q.2.2) := by decide +kernel
theorem tv_i31 : ∀ q ∈ tb_i31, decode cX2_isNumberWithin q.1 = .ok (q.2.1, q.2.2) := by decide +kernel
theorem tv_i32 : ∀ q ∈ tb_i32, decode cX2_faultOfToken q.1 = .ok (q.2.1, q.2.2) := by decide +kernel
theorem tv_i33 : ∀ q ∈ tb_i33, decode cX2_refuse q.1 = .ok (q.2.1, q.2.2) := by decide +kernel
theorem tv_i34 : ∀ q ∈ tb_i34, decode cX2_advance q.1 = .ok (q.2.1, q.2.2) := by decide +kernel
theorem tv_i35 : ∀ q ∈ tb_i35, decode cX2_skip q.1 = .ok (q.2.1, q.2.2) := by decide +kernel
theorem tv_i36 : ∀ q ∈ tb_i36, decode cX2_takeNumber q.1 = .ok (q.2.1, q.2.2) := by decide +kernel
theorem tv_i37 : ∀ q ∈ tb_i37, decode cX2_wordRead q.1 = .ok (q.2.1, q.2.2) := by decide +kernel
theorem tv_i38 : ∀ q ∈ tb_i38, decode cX3_has q.1 = .ok (q.2.1, q.2.2) := by decide +kernel
theorem tv_i39 : ∀ q ∈ tb_i39, decode cX3_isNothing q.1 = .ok (q.2.1, q.2.2) := by decide +kernel
theorem tv_i40 : ∀ q ∈ tb_i40, decode cX3_renew q.1 = .ok (q.2.1, q.2.2) := by decide +kernel
theorem tv_i41 : ∀ q ∈ tb_i41, decode cX3_faultOfCell q.1 = .ok (q.2.1, q.2.2) := by decide +kernel
theorem tv_i42 : ∀ q ∈ tb_i42, decode cX3_faultOfReading q.1 = .ok (q.2.1, q.2.2) := by decide +kernel
theorem tv_i43 : ∀ q ∈ tb_i43, decode cX3_put q.1 = .ok (q.2.1, q.2.2) := by decide +kernel
theorem tv_i44 : ∀ q ∈ tb_i44, decode cX4_add q.1 = .ok (q.2.1, q.2.2) := by decide +kernel
theorem tv_i45 : ∀ q ∈ tb_i45, decode cX4_kindsOf q.1 = .ok (q.2.1, q.2.2) := by decide +kernel
theorem tv_i46 : ∀ q ∈ tb_i46, decode cX5_feed q.1 = .ok (q.2.1, q.2.2) := by decide +kernel
theorem tv_i47 : ∀ q ∈ tb_i47, decode cX5_end q.1 = .ok (q.2.1, q.2.2) := by decide +kernel
theorem tv_i48 : ∀ q ∈ tb_i48, decode cX5_text q.1 = .ok (q.2.1, q.2.2) := by decide +kernel
theorem tv_i49 : ∀ q ∈ tb_i49, decode cX5_fault q.1 = .ok (q.2.1, q.2.2) := by decide +kernel
theorem tv_i50 : ∀ q ∈ tb_i50, decode cX5_rule q.1 = .ok (q.2.1, q.2.2) := by decide +kernel
theorem tv_i51 : ∀ q ∈ tb_i51, decode cX5_test q.1 = .ok (q.2.1, q.2.2) := by decide +kernel
theorem tv_i52 : ∀ q ∈ tb_i52, decode cX5_act q.1 = .ok (q.2.1, q.2.2) := by decide +kernel
theorem tv_i53 : ∀ q ∈ tb_i53, decode cX5_alter q.1 = .ok (q.2.1, q.2.2) := by decide +kernel
theorem tv_i54 : ∀ q ∈ tb_i54, decode cX5_resize q.1 = .ok (q.2.1, q.2.2) := by decide +kernel
theorem tv_i55 : ∀ q ∈ tb_i55, decode cX5_replace q.1 = .ok (q.2.1, q.2.2) := by decide +kernel
theorem tv_i56 : ∀ q ∈ tb_i56, decode cX5_strong q.1 = .ok (q.2.1, q.2.2) := by decide +kernel
theorem tv_i57 : ∀ q ∈ tb_i57, decode cX5_fill q.1 = .ok (q.2.1, q.2.2) := by decide +kernel
theorem tv_i58 : ∀ q ∈ tb_i58, decode cX5_plan q.1 = .ok (q.2.1, q.2.2) := by decide +kernel
theorem tv_i59 : ∀ q ∈ tb_i59, decode cX5_cut q.1 = .ok (q.2.1, q.2.2) := by decide +kernel
theorem tv_i60 : ∀ q ∈ tb_i60, decode cX5_pull q.1 = .ok (q.2.1, q.2.2) := by decide +kernel
theorem tv_i61 : ∀ q ∈ tb_i61, decode cX5_rest q.1 = .ok (q.2.1, q.2.2) := by decide +kernel
theorem tv_i62 : ∀ q ∈ tb_i62, decode cX5_runs q.1 = .ok (q.2.1, q.2.2) := by decide +kernel
theorem tv_i63 : ∀ q ∈ tb_i63, decode cX5_ahead q.1 = .ok (q.2.1, q.2.2) := by decide +kernel
theorem tv_i64 : ∀ q ∈ tb_i64, decode cX5_need q.1 = .ok (q.2.1, q.2.2) := by decide +kernel
theorem tv_i65 : ∀ q ∈ tb_i65, decode cX5_least q.1 = .ok (q.2.1, q.2.2) := by decide +kernel
theorem tv_i66 : ∀ q ∈ tb_i66, decode cX5_isWonBy q.1 = .ok (q.2.1, q.2.2) := by decide +kernel
theorem tv_i67 : ∀ q ∈ tb_i67, decode cX5_best q.1 = .ok (q.2.1, q.2.2) := by decide +kernel
theorem tv_i68 : ∀ q ∈ tb_i68, decode cX5_bestRow q.1 = .ok (q.2.1, q.2.2) := by decide +kernel
theorem tv_i69 : ∀ q ∈ tb_i69, decode cX5_tryRow q.1 = .ok (q.2.1, q.2.2) := by decide +kernel
theorem tv_i70 : ∀ q ∈ tb_i70, decode cX5_actOfRow q.1 = .ok (q.2.1, q.2.2) := by decide +kernel
theorem tv_i71 : ∀ q ∈ tb_i71, decode cX5_hide q.1 = .ok (q.2.1, q.2.2) := by decide +kernel
theorem tv_i72 : ∀ q ∈ tb_i72, decode cX5_swap q.1 = .ok (q.2.1, q.2.2) := by decide +kernel
theorem tv_i73 : ∀ q ∈ tb_i73, decode cX5_laughsIfChanged q.1 = .ok (q.2.1, q.2.2) := by decide +kernel
theorem tv_i74 : ∀ q ∈ tb_i74, decode cX5_unmask q.1 = .ok (q.2.1, q.2.2) := by decide +kernel
theorem tv_i75 : ∀ q ∈ tb_i75, decode cX5_movedIfPlain q.1 = .ok (q.2.1, q.2.2) := by decide +kernel
theorem tv_i76 : ∀ q ∈ tb_i76, decode cX5_luck q.1 = .ok (q.2.1, q.2.2) := by decide +kernel
theorem tv_i77 : ∀ q ∈ tb_i77, decode cX5_mean q.1 = .ok (q.2.1, q.2.2) := by decide +kernel
theorem tv_i78 : ∀ q ∈ tb_i78, decode cX5_areOdds q.1 = .ok (q.2.1, q.2.2) := by decide +kernel
theorem tv_i79 : ∀ q ∈ tb_i79, decode cX5_see q.1 = .ok (q.2.1, q.2.2) := by decide +kernel
theorem tv_i80 : ∀ q ∈ tb_i80, decode cX5_forget q.1 = .ok (q.2.1, q.2.2) := by decide +kernel
theorem tv_i81 : ∀ q ∈ tb_i81, decode cX5_kinds q.1 = .ok (q.2.1, q.2.2) := by decide +kernel
theorem tv_i82 : ∀ q ∈ tb_i82, decode cX5_ask q.1 = .ok (q.2.1, q.2.2) := by decide +kernel
theorem tv_i83 : ∀ q ∈ tb_i83, decode cX5_leftAtWorst q.1 = .ok (q.2.1, q.2.2) := by decide +kernel
theorem tv_i84 : ∀ q ∈ tb_i84, decode cX5_arms q.1 = .ok (q.2.1, q.2.2) := by decide +kernel
theorem tv_i85 : ∀ q ∈ tb_i85, decode cX5_drift q.1 = .ok (q.2.1, q.2.2) := by decide +kernel
theorem tv_i86 : ∀ q ∈ tb_i86, decode cX5_keep q.1 = .ok (q.2.1, q.2.2) := by decide +kernel
theorem tv_i87 : ∀ q ∈ tb_i87, decode cX5_back q.1 = .ok (q.2.1, q.2.2) := by decide +kernel
theorem tv_i88 : ∀ q ∈ tb_i88, decode cX5_imageAt q.1 = .ok (q.2.1, q.2.2) := by decide +kernel
theorem tv_i89 : ∀ q ∈ tb_i89, decode cX5_sheet q.1 = .ok (q.2.1, q.2.2) := by decide +kernel
theorem tv_i90 : ∀ q ∈ tb_i90, decode cX5_lay q.1 = .ok (q.2.1, q.2.2) := by decide +kernel
theorem tv_i91 : ∀ q ∈ tb_i91, decode cX5_read q.1 = .ok (q.2.1, q.2.2) := by decide +kernel
theorem tv_i92 : ∀ q ∈ tb_i92, decode cX5_torn q.1 = .ok (q.2.1, q.2.2) := by decide +kernel
theorem tv_i93 : ∀ q ∈ tb_i93, decode cX5_count q.1 = .ok (q.2.1, q.2.2) := by decide +kernel
theorem tv_i94 : ∀ q ∈ tb_i94, decode cX5_within q.1 = .ok (q.2.1, q.2.2) := by decide +kernel
theorem tv_i95 : ∀ q ∈ tb_i95, decode cX5_hasBit q.1 = .ok (q.2.1, q.2.2) := by decide +kernel
theorem tv_i96 : ∀ q ∈ tb_i96, decode cX5_yieldBy q.1 = .ok (q.2.1, q.2.2) := by decide +kernel
theorem tv_i97 : ∀ q ∈ tb_i97, decode cX5_kindsThatYield q.1 = .ok (q.2.1, q.2.2) := by decide +kernel
theorem tv_i98 : ∀ q ∈ tb_i98, decode cX6_in q.1 = .ok (q.2.1, q.2.2) := by decide +kernel
theorem tv_i99 : ∀ q ∈ tb_i99, decode cX6_feed q.1 = .ok (q.2.1, q.2.2) := by decide +kernel
theorem tv_i100 : ∀ q ∈ tb_i100, decode cX6_end q.1 = .ok (q.2.1, q.2.2) := by decide +kernel
theorem tv_i101 : ∀ q ∈ tb_i101, decode cX6_byteAt q.1 = .ok (q.2.1, q.2.2) := by decide +kernel
theorem tv_i102 : ∀ q ∈ tb_i102, decode cX6_fails q.1 = .ok (q.2.1, q.2.2) := by decide +kernel
theorem tv_i103 : ∀ q ∈ tb_i103, decode cX6_nameHere q.1 = .ok (q.2.1, q.2.2) := by decide +kernel
theorem tv_i104 : ∀ q ∈ tb_i104, decode cX6_step q.1 = .ok (q.2.1, q.2.2) := by decide +kernel
theorem tv_i105 : ∀ q ∈ tb_i105, decode cX6_number q.1 = .ok (q.2.1, q.2.2) := by decide +kernel
theorem tv_i106 : ∀ q ∈ tb_i106, decode cX6_readPlan q.1 = .ok (q.2.1, q.2.2) := by decide +kernel
theorem tv_i107 : ∀ q ∈ tb_i107, decode cX6_readTest q.1 = .ok (q.2.1, q.2.2) := by decide +kernel
theorem tv_i108 : ∀ q ∈ tb_i108, decode cX6_readLine q.1 = .ok (q.2.1, q.2.2) := by decide +kernel
theorem tv_i109 : ∀ q ∈ tb_i109, decode cX6_text q.1 = .ok (q.2.1, q.2.2) := by decide +kernel
theorem tv_i110 : ∀ q ∈ tb_i110, decode cX6_fault q.1 = .ok (q.2.1, q.2.2) := by decide +kernel
theorem tv_i111 : ∀ q ∈ tb_i111, decode cX6_isTest q.1 = .ok (q.2.1, q.2.2) := by decide +kernel
theorem tv_i112 : ∀ q ∈ tb_i112, decode cX6_yieldOf q.1 = .ok (q.2.1, q.2.2) := by decide +kernel
theorem tv_i113 : ∀ q ∈ tb_i113, decode cX6_strengthOn q.1 = .ok (q.2.1, q.2.2) := by decide +kernel
theorem tv_i114 : ∀ q ∈ tb_i114, decode cX6_yieldOn q.1 = .ok (q.2.1, q.2.2) := by decide +kernel
theorem tv_i115 : ∀ q ∈ tb_i115, decode cX6_isWon q.1 = .ok (q.2.1, q.2.2) := by decide +kernel
theorem tv_i116 : ∀ q ∈ tb_i116, decode cX6_wonOn q.1 = .ok (q.2.1, q.2.2) := by decide +kernel
theorem tv_i117 : ∀ q ∈ tb_i117, decode cX6_movedOn q.1 = .ok (q.2.1, q.2.2) := by decide +kernel
theorem tv_i118 : ∀ q ∈ tb_i118, decode cX6_rule q.1 = .ok (q.2.1, q.2.2) := by decide +kernel
theorem tv_i119 : ∀ q ∈ tb_i119, decode cX6_test q.1 = .ok (q.2.1, q.2.2) := by decide +kernel
theorem tv_i120 : ∀ q ∈ tb_i120, decode cX6_act q.1 = .ok (q.2.1, q.2.2) := by decide +kernel
theorem tv_i121 : ∀ q ∈ tb_i121, decode cX6_puts q.1 = .ok (q.2.1, q.2.2) := by decide +kernel
theorem tv_i122 : ∀ q ∈ tb_i122, decode cX6_alter q.1 = .ok (q.2.1, q.2.2) := by decide +kernel
theorem tv_i123 : ∀ q ∈ tb_i123, decode cX6_strong q.1 = .ok (q.2.1, q.2.2) := by decide +kernel
theorem tv_i124 : ∀ q ∈ tb_i124, decode cX6_fill q.1 = .ok (q.2.1, q.2.2) := by decide +kernel
theorem tv_i125 : ∀ q ∈ tb_i125, decode cX6_plan q.1 = .ok (q.2.1, q.2.2) := by decide +kernel
theorem tv_i126 : ∀ q ∈ tb_i126, decode cX6_cut q.1 = .ok (q.2.1, q.2.2) := by decide +kernel
theorem tv_i127 : ∀ q ∈ tb_i127, decode cX6_canPull q.1 = .ok (q.2.1, q.2.2) := by decide +kernel
theorem tv_i128 : ∀ q ∈ tb_i128, decode cX6_pullsOn q.1 = .ok (q.2.1, q.2.2) := by decide +kernel
theorem tv_i129 : ∀ q ∈ tb_i129, decode cX6_restsOn q.1 = .ok (q.2.1, q.2.2) := by decide +kernel
theorem tv_i130 : ∀ q ∈ tb_i130, decode cX6_actsOn q.1 = .ok (q.2.1, q.2.2) := by decide +kernel
theorem tv_i131 : ∀ q ∈ tb_i131, decode cX6_pulls q.1 = .ok (q.2.1, q.2.2) := by decide +kernel
theorem tv_i132 : ∀ q ∈ tb_i132, decode cX6_pull q.1 = .ok (q.2.1, q.2.2) := by decide +kernel
theorem tv_i133 : ∀ q ∈ tb_i133, decode cX6_rest q.1 = .ok (q.2.1, q.2.2) := by decide +kernel
theorem tv_i134 : ∀ q ∈ tb_i134, decode cX6_copies q.1 = .ok (q.2.1, q.2.2) := by decide +kernel
theorem tv_i135 : ∀ q ∈ tb_i135, decode cX6_planGoes q.1 = .ok (q.2.1, q.2.2) := by decide +kernel
theorem tv_i136 : ∀ q ∈ tb_i136, decode cX6_laughsMore q.1 = .ok (q.2.1, q.2.2) := by decide +kernel
theorem tv_i137 : ∀ q ∈ tb_i137, decode cX6_runs q.1 = .ok (q.2.1, q.2.2) := by decide +kernel
theorem tv_i138 : ∀ q ∈ tb_i138, decode cX6_ahead q.1 = .ok (q.2.1, q.2.2) := by decide +kernel
theorem tv_i139 : ∀ q ∈ tb_i139, decode cX6_aloneBy q.1 = .ok (q.2.1, q.2.2) := by decide +kernel
theorem tv_i140 : ∀ q ∈ tb_i140, decode cX6_need q.1 = .ok (q.2.1, q.2.2) := by decide +kernel
theorem tv_i141 : ∀ q ∈ tb_i141, decode cX6_least q.1 = .ok (q.2.1, q.2.2) := by decide +kernel
theorem tv_i142 : ∀ q ∈ tb_i142, decode cX6_bitsOf q.1 = .ok (q.2.1, q.2.2) := by decide +kernel
theorem tv_i143 : ∀ q ∈ tb_i143, decode cX6_powerOf q.1 = .ok (q.2.1, q.2.2) := by decide +kernel
theorem tv_i144 : ∀ q ∈ tb_i144, decode cX6_figureOf q.1 = .ok (q.2.1, q.2.2) := by decide +kernel
theorem tv_i145 : ∀ q ∈ tb_i145, decode cX6_rowGoes q.1 = .ok (q.2.1, q.2.2) := by decide +kernel
theorem tv_i146 : ∀ q ∈ tb_i146, decode cX6_best q.1 = .ok (q.2.1, q.2.2) := by decide +kernel
theorem tv_i147 : ∀ q ∈ tb_i147, decode cX6_hide q.1 = .ok (q.2.1, q.2.2) := by decide +kernel
theorem tv_i148 : ∀ q ∈ tb_i148, decode cX6_swap q.1 = .ok (q.2.1, q.2.2) := by decide +kernel
theorem tv_i149 : ∀ q ∈ tb_i149, decode cX6_unmask q.1 = .ok (q.2.1, q.2.2) := by decide +kernel
theorem tv_i150 : ∀ q ∈ tb_i150, decode cX6_lowest q.1 = .ok (q.2.1, q.2.2) := by decide +kernel
theorem tv_i151 : ∀ q ∈ tb_i151, decode cX6_bySlips q.1 = .ok (q.2.1, q.2.2) := by decide +kernel
theorem tv_i152 : ∀ q ∈ tb_i152, decode cX6_isAsked q.1 = .ok (q.2.1, q.2.2) := by decide +kernel
theorem tv_i153 : ∀ q ∈ tb_i153, decode cX6_luck q.1 = .ok (q.2.1, q.2.2) := by decide +kernel
theorem tv_i154 : ∀ q ∈ tb_i154, decode cX6_mean q.1 = .ok (q.2.1, q.2.2) := by decide +kernel
theorem tv_i155 : ∀ q ∈ tb_i155, decode cX6_see q.1 = .ok (q.2.1, q.2.2) := by decide +kernel
theorem tv_i156 : ∀ q ∈ tb_i156, decode cX6_forget q.1 = .ok (q.2.1, q.2.2) := by decide +kernel
theorem tv_i157 : ∀ q ∈ tb_i157, decode cX6_kindsOf q.1 = .ok (q.2.1, q.2.2) := by decide +kernel
theorem tv_i158 : ∀ q ∈ tb_i158, decode cX6_kinds q.1 = .ok (q.2.1, q.2.2) := by decide +kernel
theorem tv_i159 : ∀ q ∈ tb_i159, decode cX6_ask q.1 = .ok (q.2.1, q.2.2) := by decide +kernel
theorem tv_i160 : ∀ q ∈ tb_i160, decode cX6_arms q.1 = .ok (q.2.1, q.2.2) := by decide +kernel
theorem tv_i161 : ∀ q ∈ tb_i161, decode cX6_drift q.1 = .ok (q.2.1, q.2.2) := by decide +kernel
theorem tv_i162 : ∀ q ∈ tb_i162, decode cX6_keep q.1 = .ok (q.2.1, q.2.2) := by decide +kernel
theorem tv_i163 : ∀ q ∈ tb_i163, decode cX6_back q.1 = .ok (q.2.1, q.2.2) := by decide +kernel
theorem tv_i164 : ∀ q ∈ tb_i164, decode cX6_sheet q.1 = .ok (q.2.1, q.2.2) := by decide +kernel
theorem tv_i165 : ∀ q ∈ tb_i165, decode cX6_lay q.1 = .ok (q.2.1, q.2.2) := by decide +kernel
theorem tv_i166 : ∀ q ∈ tb_i166, decode cX6_read q.1 = .ok (q.2.1, q.2.2) := by decide +kernel
theorem tv_i167 : ∀ q ∈ tb_i167, decode cX6_torn q.1 = .ok (q.2.1, q.2.2) := by decide +kernel
theorem tv_i168 : ∀ q ∈ tb_i168, decode cX6_count q.1 = .ok (q.2.1, q.2.2) := by decide +kernel
theorem tv_i170 : ∀ q ∈ tb_i170, decode cJ6_bitCount_0f7a4 q.1 = .ok (q.2.1, q.2.2) := by decide +kernel
end
section
/-! .. of the law; all the tables are true -/
def tc_0 : List (Nat × Instr × Nat) := [(0, .new 7, 3), (3, .dup, 1), (4, .invokespecial 9, 3), (7, .astore_n 1, 1), (8, .new 10, 3), (11, .dup, 1), (12, .invokespecial 12, 3), (15, .astore_n 2, 1), (16, .iconst 0, 1), (17, .istore_n 3, 1), (18, .iload_n 3, 1), (19, .aload_n 0, 1), (20, .arraylength, 1), (21, .iconst 5, 1), (22, .isub, 1), (23, .if_icmp .gt 1280, 3), (26, .aload_n 0, 1), (27, .iload_n 3, 1), (28, .iaload, 1), (29, .bipush 63, 2), (31, .iand, 1), (32, .tableswitch 1265 0 36 #[164, 187, 210, 223, 236, 259, 292, 315, 358, 381, 404, 427, 450, 473, 496, 519, 542, 565, 598, 631, 664, 687, 710, 763, 816, 869, 892, 915, 948, 1001, 1044, 1067, 1090, 1133, 1176, 1229, 1242], 164), (196, .aload_n 1, 1), (197, .aload_n 0, 1), (198, .iload_n 3, 1), (199, .iconst 1, 1), (200, .iadd, 1), (201, .iaload, 1), (202, .invokevirtual 13, 3), (205, .pop, 1), (206, .aload_n 2, 1), (207, .aload_n 0, 1), (208, .iload_n 3, 1), (209, .iconst 1, 1), (210, .iadd, 1), (211, .iaload, 1), (212, .invokevirtual 17, 3), (215, .pop, 1), (216, .goto 1081, 3), (219, .aload_n 1, 1)]
theorem tc_0_ok : ∀ q ∈ tc_0, decode cL_law q.1 = .ok (q.2.1, q.2.2) := by decide +kernel
def tc_1 : List (Nat × Instr × Nat) := [(220, .aload_n 0, 1), (221, .iload_n 3, 1), (222, .iconst 1, 1), (223, .iadd, 1), (224, .iaload, 1), (225, .invokevirtual 18, 3), (228, .pop, 1), (229, .aload_n 2, 1), (230, .aload_n 0, 1), (231, .iload_n 3, 1), (232, .iconst 1, 1), (233, .iadd, 1), (234, .iaload, 1), (235, .invokevirtual 21, 3), (238, .pop, 1), (239, .goto 1058, 3), (242, .aload_n 1, 1), (243, .invokevirtual 22, 3), (246, .aload_n 2, 1), (247, .invokevirtual 26, 3), (250, .if_icmp .eq 1047, 3), (253, .iconst 0, 1), (254, .ireturn, 1), (255, .aload_n 1, 1), (256, .invokevirtual 27, 3), (259, .pop, 1), (260, .aload_n 2, 1), (261, .invokevirtual 30, 3), (264, .pop, 1), (265, .goto 1032, 3), (268, .aload_n 1, 1), (269, .aload_n 0, 1), (270, .iload_n 3, 1), (271, .iconst 1, 1), (272, .iadd, 1), (273, .iaload, 1), (274, .invokevirtual 31, 3), (277, .pop, 1), (278, .aload_n 2, 1), (279, .aload_n 0, 1)]
theorem tc_1_ok : ∀ q ∈ tc_1, decode cL_law q.1 = .ok (q.2.1, q.2.2) := by decide +kernel
def tc_2 : List (Nat × Instr × Nat) := [(280, .iload_n 3, 1), (281, .iconst 1, 1), (282, .iadd, 1), (283, .iaload, 1), (284, .invokevirtual 34, 3), (287, .pop, 1), (288, .goto 1009, 3), (291, .aload_n 1, 1), (292, .aload_n 0, 1), (293, .iload_n 3, 1), (294, .iconst 1, 1), (295, .iadd, 1), (296, .iaload, 1), (297, .aload_n 0, 1), (298, .iload_n 3, 1), (299, .iconst 2, 1), (300, .iadd, 1), (301, .iaload, 1), (302, .invokevirtual 35, 3), (305, .pop, 1), (306, .aload_n 2, 1), (307, .aload_n 0, 1), (308, .iload_n 3, 1), (309, .iconst 1, 1), (310, .iadd, 1), (311, .iaload, 1), (312, .aload_n 0, 1), (313, .iload_n 3, 1), (314, .iconst 2, 1), (315, .iadd, 1), (316, .iaload, 1), (317, .invokevirtual 39, 3), (320, .pop, 1), (321, .goto 976, 3), (324, .aload_n 1, 1), (325, .aload_n 0, 1), (326, .iload_n 3, 1), (327, .iconst 1, 1), (328, .iadd, 1), (329, .iaload, 1)]
theorem tc_2_ok : ∀ q ∈ tc_2, decode cL_law q.1 = .ok (q.2.1, q.2.2) := by decide +kernel
def tc_3 : List (Nat × Instr × Nat) := [(330, .invokevirtual 40, 3), (333, .pop, 1), (334, .aload_n 2, 1), (335, .aload_n 0, 1), (336, .iload_n 3, 1), (337, .iconst 1, 1), (338, .iadd, 1), (339, .iaload, 1), (340, .invokevirtual 43, 3), (343, .pop, 1), (344, .goto 953, 3), (347, .aload_n 1, 1), (348, .aload_n 0, 1), (349, .iload_n 3, 1), (350, .iconst 1, 1), (351, .iadd, 1), (352, .iaload, 1), (353, .aload_n 0, 1), (354, .iload_n 3, 1), (355, .iconst 2, 1), (356, .iadd, 1), (357, .iaload, 1), (358, .aload_n 0, 1), (359, .iload_n 3, 1), (360, .iconst 3, 1), (361, .iadd, 1), (362, .iaload, 1), (363, .invokevirtual 44, 3), (366, .pop, 1), (367, .aload_n 2, 1), (368, .aload_n 0, 1), (369, .iload_n 3, 1), (370, .iconst 1, 1), (371, .iadd, 1), (372, .iaload, 1), (373, .aload_n 0, 1), (374, .iload_n 3, 1), (375, .iconst 2, 1), (376, .iadd, 1), (377, .iaload, 1)]
theorem tc_3_ok : ∀ q ∈ tc_3, decode cL_law q.1 = .ok (q.2.1, q.2.2) := by decide +kernel
def tc_4 : List (Nat × Instr × Nat) := [(378, .aload_n 0, 1), (379, .iload_n 3, 1), (380, .iconst 3, 1), (381, .iadd, 1), (382, .iaload, 1), (383, .invokevirtual 48, 3), (386, .pop, 1), (387, .goto 910, 3), (390, .aload_n 1, 1), (391, .aload_n 0, 1), (392, .iload_n 3, 1), (393, .iconst 1, 1), (394, .iadd, 1), (395, .iaload, 1), (396, .invokevirtual 49, 3), (399, .pop, 1), (400, .aload_n 2, 1), (401, .aload_n 0, 1), (402, .iload_n 3, 1), (403, .iconst 1, 1), (404, .iadd, 1), (405, .iaload, 1), (406, .invokevirtual 52, 3), (409, .pop, 1), (410, .goto 887, 3), (413, .aload_n 1, 1), (414, .aload_n 0, 1), (415, .iload_n 3, 1), (416, .iconst 1, 1), (417, .iadd, 1), (418, .iaload, 1), (419, .invokevirtual 53, 3), (422, .pop, 1), (423, .aload_n 2, 1), (424, .aload_n 0, 1), (425, .iload_n 3, 1), (426, .iconst 1, 1), (427, .iadd, 1), (428, .iaload, 1), (429, .invokevirtual 56, 3)]
theorem tc_4_ok : ∀ q ∈ tc_4, decode cL_law q.1 = .ok (q.2.1, q.2.2) := by decide +kernel
def tc_5 : List (Nat × Instr × Nat) := [(432, .pop, 1), (433, .goto 864, 3), (436, .aload_n 1, 1), (437, .aload_n 0, 1), (438, .iload_n 3, 1), (439, .iconst 1, 1), (440, .iadd, 1), (441, .iaload, 1), (442, .invokevirtual 57, 3), (445, .pop, 1), (446, .aload_n 2, 1), (447, .aload_n 0, 1), (448, .iload_n 3, 1), (449, .iconst 1, 1), (450, .iadd, 1), (451, .iaload, 1), (452, .invokevirtual 60, 3), (455, .pop, 1), (456, .goto 841, 3), (459, .aload_n 1, 1), (460, .aload_n 0, 1), (461, .iload_n 3, 1), (462, .iconst 1, 1), (463, .iadd, 1), (464, .iaload, 1), (465, .invokevirtual 61, 3), (468, .pop, 1), (469, .aload_n 2, 1), (470, .aload_n 0, 1), (471, .iload_n 3, 1), (472, .iconst 1, 1), (473, .iadd, 1), (474, .iaload, 1), (475, .invokevirtual 64, 3), (478, .pop, 1), (479, .goto 818, 3), (482, .aload_n 1, 1), (483, .aload_n 0, 1), (484, .iload_n 3, 1), (485, .iconst 1, 1)]
theorem tc_5_ok : ∀ q ∈ tc_5, decode cL_law q.1 = .ok (q.2.1, q.2.2) := by decide +kernel
def tc_6 : List (Nat × Instr × Nat) := [(486, .iadd, 1), (487, .iaload, 1), (488, .invokevirtual 65, 3), (491, .pop, 1), (492, .aload_n 2, 1), (493, .aload_n 0, 1), (494, .iload_n 3, 1), (495, .iconst 1, 1), (496, .iadd, 1), (497, .iaload, 1), (498, .invokevirtual 68, 3), (501, .pop, 1), (502, .goto 795, 3), (505, .aload_n 1, 1), (506, .aload_n 0, 1), (507, .iload_n 3, 1), (508, .iconst 1, 1), (509, .iadd, 1), (510, .iaload, 1), (511, .invokevirtual 69, 3), (514, .pop, 1), (515, .aload_n 2, 1), (516, .aload_n 0, 1), (517, .iload_n 3, 1), (518, .iconst 1, 1), (519, .iadd, 1), (520, .iaload, 1), (521, .invokevirtual 72, 3), (524, .pop, 1), (525, .goto 772, 3), (528, .aload_n 1, 1), (529, .aload_n 0, 1), (530, .iload_n 3, 1), (531, .iconst 1, 1), (532, .iadd, 1), (533, .iaload, 1), (534, .invokevirtual 73, 3), (537, .pop, 1), (538, .aload_n 2, 1), (539, .aload_n 0, 1)]
theorem tc_6_ok : ∀ q ∈ tc_6, decode cL_law q.1 = .ok (q.2.1, q.2.2) := by decide +kernel
def tc_7 : List (Nat × Instr × Nat) := [(540, .iload_n 3, 1), (541, .iconst 1, 1), (542, .iadd, 1), (543, .iaload, 1), (544, .invokevirtual 76, 3), (547, .pop, 1), (548, .goto 749, 3), (551, .aload_n 1, 1), (552, .aload_n 0, 1), (553, .iload_n 3, 1), (554, .iconst 1, 1), (555, .iadd, 1), (556, .iaload, 1), (557, .invokevirtual 77, 3), (560, .pop, 1), (561, .aload_n 2, 1), (562, .aload_n 0, 1), (563, .iload_n 3, 1), (564, .iconst 1, 1), (565, .iadd, 1), (566, .iaload, 1), (567, .invokevirtual 80, 3), (570, .pop, 1), (571, .goto 726, 3), (574, .aload_n 1, 1), (575, .aload_n 0, 1), (576, .iload_n 3, 1), (577, .iconst 1, 1), (578, .iadd, 1), (579, .iaload, 1), (580, .invokevirtual 81, 3), (583, .pop, 1), (584, .aload_n 2, 1), (585, .aload_n 0, 1), (586, .iload_n 3, 1), (587, .iconst 1, 1), (588, .iadd, 1), (589, .iaload, 1), (590, .invokevirtual 84, 3), (593, .pop, 1)]
theorem tc_7_ok : ∀ q ∈ tc_7, decode cL_law q.1 = .ok (q.2.1, q.2.2) := by decide +kernel
def tc_8 : List (Nat × Instr × Nat) := [(594, .goto 703, 3), (597, .aload_n 1, 1), (598, .aload_n 0, 1), (599, .iload_n 3, 1), (600, .iconst 1, 1), (601, .iadd, 1), (602, .iaload, 1), (603, .aload_n 0, 1), (604, .iload_n 3, 1), (605, .iconst 2, 1), (606, .iadd, 1), (607, .iaload, 1), (608, .invokevirtual 85, 3), (611, .pop, 1), (612, .aload_n 2, 1), (613, .aload_n 0, 1), (614, .iload_n 3, 1), (615, .iconst 1, 1), (616, .iadd, 1), (617, .iaload, 1), (618, .aload_n 0, 1), (619, .iload_n 3, 1), (620, .iconst 2, 1), (621, .iadd, 1), (622, .iaload, 1), (623, .invokevirtual 88, 3), (626, .pop, 1), (627, .goto 670, 3), (630, .aload_n 1, 1), (631, .aload_n 0, 1), (632, .iload_n 3, 1), (633, .iconst 1, 1), (634, .iadd, 1), (635, .iaload, 1), (636, .aload_n 0, 1), (637, .iload_n 3, 1), (638, .iconst 2, 1), (639, .iadd, 1), (640, .iaload, 1), (641, .invokevirtual 89, 3)]
theorem tc_8_ok : ∀ q ∈ tc_8, decode cL_law q.1 = .ok (q.2.1, q.2.2) := by decide +kernel
def tc_9 : List (Nat × Instr × Nat) := [(644, .pop, 1), (645, .aload_n 2, 1), (646, .aload_n 0, 1), (647, .iload_n 3, 1), (648, .iconst 1, 1), (649, .iadd, 1), (650, .iaload, 1), (651, .aload_n 0, 1), (652, .iload_n 3, 1), (653, .iconst 2, 1), (654, .iadd, 1), (655, .iaload, 1), (656, .invokevirtual 92, 3), (659, .pop, 1), (660, .goto 637, 3), (663, .aload_n 1, 1), (664, .aload_n 0, 1), (665, .iload_n 3, 1), (666, .iconst 1, 1), (667, .iadd, 1), (668, .iaload, 1), (669, .aload_n 0, 1), (670, .iload_n 3, 1), (671, .iconst 2, 1), (672, .iadd, 1), (673, .iaload, 1), (674, .invokevirtual 93, 3), (677, .pop, 1), (678, .aload_n 2, 1), (679, .aload_n 0, 1), (680, .iload_n 3, 1), (681, .iconst 1, 1), (682, .iadd, 1), (683, .iaload, 1), (684, .aload_n 0, 1), (685, .iload_n 3, 1), (686, .iconst 2, 1), (687, .iadd, 1), (688, .iaload, 1), (689, .invokevirtual 96, 3)]
theorem tc_9_ok : ∀ q ∈ tc_9, decode cL_law q.1 = .ok (q.2.1, q.2.2) := by decide +kernel
def tc_10 : List (Nat × Instr × Nat) := [(692, .pop, 1), (693, .goto 604, 3), (696, .aload_n 1, 1), (697, .aload_n 0, 1), (698, .iload_n 3, 1), (699, .iconst 1, 1), (700, .iadd, 1), (701, .iaload, 1), (702, .invokevirtual 97, 3), (705, .pop, 1), (706, .aload_n 2, 1), (707, .aload_n 0, 1), (708, .iload_n 3, 1), (709, .iconst 1, 1), (710, .iadd, 1), (711, .iaload, 1), (712, .invokevirtual 100, 3), (715, .pop, 1), (716, .goto 581, 3), (719, .aload_n 1, 1), (720, .aload_n 0, 1), (721, .iload_n 3, 1), (722, .iconst 1, 1), (723, .iadd, 1), (724, .iaload, 1), (725, .invokevirtual 101, 3), (728, .pop, 1), (729, .aload_n 2, 1), (730, .aload_n 0, 1), (731, .iload_n 3, 1), (732, .iconst 1, 1), (733, .iadd, 1), (734, .iaload, 1), (735, .invokevirtual 104, 3), (738, .pop, 1), (739, .goto 558, 3), (742, .aload_n 1, 1), (743, .aload_n 0, 1), (744, .iload_n 3, 1), (745, .iconst 1, 1)]
theorem tc_10_ok : ∀ q ∈ tc_10, decode cL_law q.1 = .ok (q.2.1, q.2.2) := by decide +kernel
def tc_11 : List (Nat × Instr × Nat) := [(746, .iadd, 1), (747, .iaload, 1), (748, .aload_n 0, 1), (749, .iload_n 3, 1), (750, .iconst 2, 1), (751, .iadd, 1), (752, .iaload, 1), (753, .aload_n 0, 1), (754, .iload_n 3, 1), (755, .iconst 3, 1), (756, .iadd, 1), (757, .iaload, 1), (758, .aload_n 0, 1), (759, .iload_n 3, 1), (760, .iconst 4, 1), (761, .iadd, 1), (762, .iaload, 1), (763, .invokevirtual 105, 3), (766, .pop2, 1), (767, .aload_n 2, 1), (768, .aload_n 0, 1), (769, .iload_n 3, 1), (770, .iconst 1, 1), (771, .iadd, 1), (772, .iaload, 1), (773, .aload_n 0, 1), (774, .iload_n 3, 1), (775, .iconst 2, 1), (776, .iadd, 1), (777, .iaload, 1), (778, .aload_n 0, 1), (779, .iload_n 3, 1), (780, .iconst 3, 1), (781, .iadd, 1), (782, .iaload, 1), (783, .aload_n 0, 1), (784, .iload_n 3, 1), (785, .iconst 4, 1), (786, .iadd, 1), (787, .iaload, 1)]
theorem tc_11_ok : ∀ q ∈ tc_11, decode cL_law q.1 = .ok (q.2.1, q.2.2) := by decide +kernel
def tc_12 : List (Nat × Instr × Nat) := [(788, .invokevirtual 109, 3), (791, .pop2, 1), (792, .goto 505, 3), (795, .aload_n 1, 1), (796, .aload_n 0, 1), (797, .iload_n 3, 1), (798, .iconst 1, 1), (799, .iadd, 1), (800, .iaload, 1), (801, .aload_n 0, 1), (802, .iload_n 3, 1), (803, .iconst 2, 1), (804, .iadd, 1), (805, .iaload, 1), (806, .aload_n 0, 1), (807, .iload_n 3, 1), (808, .iconst 3, 1), (809, .iadd, 1), (810, .iaload, 1), (811, .aload_n 0, 1), (812, .iload_n 3, 1), (813, .iconst 4, 1), (814, .iadd, 1), (815, .iaload, 1), (816, .invokevirtual 110, 3), (819, .pop2, 1), (820, .aload_n 2, 1), (821, .aload_n 0, 1), (822, .iload_n 3, 1), (823, .iconst 1, 1), (824, .iadd, 1), (825, .iaload, 1), (826, .aload_n 0, 1), (827, .iload_n 3, 1), (828, .iconst 2, 1), (829, .iadd, 1), (830, .iaload, 1), (831, .aload_n 0, 1), (832, .iload_n 3, 1), (833, .iconst 3, 1)]
theorem tc_12_ok : ∀ q ∈ tc_12, decode cL_law q.1 = .ok (q.2.1, q.2.2) := by decide +kernel
def tc_13 : List (Nat × Instr × Nat) := [(834, .iadd, 1), (835, .iaload, 1), (836, .aload_n 0, 1), (837, .iload_n 3, 1), (838, .iconst 4, 1), (839, .iadd, 1), (840, .iaload, 1), (841, .invokevirtual 113, 3), (844, .pop2, 1), (845, .goto 452, 3), (848, .aload_n 1, 1), (849, .aload_n 0, 1), (850, .iload_n 3, 1), (851, .iconst 1, 1), (852, .iadd, 1), (853, .iaload, 1), (854, .aload_n 0, 1), (855, .iload_n 3, 1), (856, .iconst 2, 1), (857, .iadd, 1), (858, .iaload, 1), (859, .aload_n 0, 1), (860, .iload_n 3, 1), (861, .iconst 3, 1), (862, .iadd, 1), (863, .iaload, 1), (864, .aload_n 0, 1), (865, .iload_n 3, 1), (866, .iconst 4, 1), (867, .iadd, 1), (868, .iaload, 1), (869, .invokevirtual 114, 3), (872, .pop, 1), (873, .aload_n 2, 1), (874, .aload_n 0, 1), (875, .iload_n 3, 1), (876, .iconst 1, 1), (877, .iadd, 1), (878, .iaload, 1), (879, .aload_n 0, 1)]
theorem tc_13_ok : ∀ q ∈ tc_13, decode cL_law q.1 = .ok (q.2.1, q.2.2) := by decide +kernel
def tc_14 : List (Nat × Instr × Nat) := [(880, .iload_n 3, 1), (881, .iconst 2, 1), (882, .iadd, 1), (883, .iaload, 1), (884, .aload_n 0, 1), (885, .iload_n 3, 1), (886, .iconst 3, 1), (887, .iadd, 1), (888, .iaload, 1), (889, .aload_n 0, 1), (890, .iload_n 3, 1), (891, .iconst 4, 1), (892, .iadd, 1), (893, .iaload, 1), (894, .invokevirtual 118, 3), (897, .pop, 1), (898, .goto 399, 3), (901, .aload_n 1, 1), (902, .aload_n 0, 1), (903, .iload_n 3, 1), (904, .iconst 1, 1), (905, .iadd, 1), (906, .iaload, 1), (907, .invokevirtual 119, 3), (910, .pop, 1), (911, .aload_n 2, 1), (912, .aload_n 0, 1), (913, .iload_n 3, 1), (914, .iconst 1, 1), (915, .iadd, 1), (916, .iaload, 1), (917, .invokevirtual 122, 3), (920, .pop, 1), (921, .goto 376, 3), (924, .aload_n 1, 1), (925, .aload_n 0, 1), (926, .iload_n 3, 1), (927, .iconst 1, 1), (928, .iadd, 1), (929, .iaload, 1)]
theorem tc_14_ok : ∀ q ∈ tc_14, decode cL_law q.1 = .ok (q.2.1, q.2.2) := by decide +kernel
def tc_15 : List (Nat × Instr × Nat) := [(930, .invokevirtual 123, 3), (933, .pop, 1), (934, .aload_n 2, 1), (935, .aload_n 0, 1), (936, .iload_n 3, 1), (937, .iconst 1, 1), (938, .iadd, 1), (939, .iaload, 1), (940, .invokevirtual 126, 3), (943, .pop, 1), (944, .goto 353, 3), (947, .aload_n 1, 1), (948, .aload_n 0, 1), (949, .iload_n 3, 1), (950, .iconst 1, 1), (951, .iadd, 1), (952, .iaload, 1), (953, .aload_n 0, 1), (954, .iload_n 3, 1), (955, .iconst 2, 1), (956, .iadd, 1), (957, .iaload, 1), (958, .invokevirtual 127, 3), (961, .pop, 1), (962, .aload_n 2, 1), (963, .aload_n 0, 1), (964, .iload_n 3, 1), (965, .iconst 1, 1), (966, .iadd, 1), (967, .iaload, 1), (968, .aload_n 0, 1), (969, .iload_n 3, 1), (970, .iconst 2, 1), (971, .iadd, 1), (972, .iaload, 1), (973, .invokevirtual 130, 3), (976, .pop, 1), (977, .goto 320, 3), (980, .aload_n 1, 1), (981, .aload_n 0, 1)]
theorem tc_15_ok : ∀ q ∈ tc_15, decode cL_law q.1 = .ok (q.2.1, q.2.2) := by decide +kernel
def tc_16 : List (Nat × Instr × Nat) := [(982, .iload_n 3, 1), (983, .iconst 1, 1), (984, .iadd, 1), (985, .iaload, 1), (986, .aload_n 0, 1), (987, .iload_n 3, 1), (988, .iconst 2, 1), (989, .iadd, 1), (990, .iaload, 1), (991, .aload_n 0, 1), (992, .iload_n 3, 1), (993, .iconst 3, 1), (994, .iadd, 1), (995, .iaload, 1), (996, .aload_n 0, 1), (997, .iload_n 3, 1), (998, .iconst 4, 1), (999, .iadd, 1), (1000, .iaload, 1), (1001, .invokevirtual 131, 3), (1004, .pop, 1), (1005, .aload_n 2, 1), (1006, .aload_n 0, 1), (1007, .iload_n 3, 1), (1008, .iconst 1, 1), (1009, .iadd, 1), (1010, .iaload, 1), (1011, .aload_n 0, 1), (1012, .iload_n 3, 1), (1013, .iconst 2, 1), (1014, .iadd, 1), (1015, .iaload, 1), (1016, .aload_n 0, 1), (1017, .iload_n 3, 1), (1018, .iconst 3, 1), (1019, .iadd, 1), (1020, .iaload, 1), (1021, .aload_n 0, 1), (1022, .iload_n 3, 1), (1023, .iconst 4, 1)]
theorem tc_16_ok : ∀ q ∈ tc_16, decode cL_law q.1 = .ok (q.2.1, q.2.2) := by decide +kernel
def tc_17 : List (Nat × Instr × Nat) := [(1024, .iadd, 1), (1025, .iaload, 1), (1026, .invokevirtual 134, 3), (1029, .pop, 1), (1030, .goto 267, 3), (1033, .aload_n 1, 1), (1034, .aload_n 0, 1), (1035, .iload_n 3, 1), (1036, .iconst 1, 1), (1037, .iadd, 1), (1038, .iaload, 1), (1039, .aload_n 0, 1), (1040, .iload_n 3, 1), (1041, .iconst 2, 1), (1042, .iadd, 1), (1043, .iaload, 1), (1044, .aload_n 0, 1), (1045, .iload_n 3, 1), (1046, .iconst 3, 1), (1047, .iadd, 1), (1048, .iaload, 1), (1049, .invokevirtual 135, 3), (1052, .pop, 1), (1053, .aload_n 2, 1), (1054, .aload_n 0, 1), (1055, .iload_n 3, 1), (1056, .iconst 1, 1), (1057, .iadd, 1), (1058, .iaload, 1), (1059, .aload_n 0, 1), (1060, .iload_n 3, 1), (1061, .iconst 2, 1), (1062, .iadd, 1), (1063, .iaload, 1), (1064, .aload_n 0, 1), (1065, .iload_n 3, 1), (1066, .iconst 3, 1), (1067, .iadd, 1), (1068, .iaload, 1), (1069, .invokevirtual 138, 3)]
theorem tc_17_ok : ∀ q ∈ tc_17, decode cL_law q.1 = .ok (q.2.1, q.2.2) := by decide +kernel
def tc_18 : List (Nat × Instr × Nat) := [(1072, .pop, 1), (1073, .goto 224, 3), (1076, .aload_n 1, 1), (1077, .aload_n 0, 1), (1078, .iload_n 3, 1), (1079, .iconst 1, 1), (1080, .iadd, 1), (1081, .iaload, 1), (1082, .invokevirtual 139, 3), (1085, .pop, 1), (1086, .aload_n 2, 1), (1087, .aload_n 0, 1), (1088, .iload_n 3, 1), (1089, .iconst 1, 1), (1090, .iadd, 1), (1091, .iaload, 1), (1092, .invokevirtual 142, 3), (1095, .pop, 1), (1096, .goto 201, 3), (1099, .aload_n 1, 1), (1100, .aload_n 0, 1), (1101, .iload_n 3, 1), (1102, .iconst 1, 1), (1103, .iadd, 1), (1104, .iaload, 1), (1105, .invokevirtual 143, 3), (1108, .pop, 1), (1109, .aload_n 2, 1), (1110, .aload_n 0, 1), (1111, .iload_n 3, 1), (1112, .iconst 1, 1), (1113, .iadd, 1), (1114, .iaload, 1), (1115, .invokevirtual 146, 3), (1118, .pop, 1), (1119, .goto 178, 3), (1122, .aload_n 1, 1), (1123, .aload_n 0, 1), (1124, .iload_n 3, 1), (1125, .iconst 1, 1)]
theorem tc_18_ok : ∀ q ∈ tc_18, decode cL_law q.1 = .ok (q.2.1, q.2.2) := by decide +kernel
def tc_19 : List (Nat × Instr × Nat) := [(1126, .iadd, 1), (1127, .iaload, 1), (1128, .aload_n 0, 1), (1129, .iload_n 3, 1), (1130, .iconst 2, 1), (1131, .iadd, 1), (1132, .iaload, 1), (1133, .aload_n 0, 1), (1134, .iload_n 3, 1), (1135, .iconst 3, 1), (1136, .iadd, 1), (1137, .iaload, 1), (1138, .invokevirtual 147, 3), (1141, .pop, 1), (1142, .aload_n 2, 1), (1143, .aload_n 0, 1), (1144, .iload_n 3, 1), (1145, .iconst 1, 1), (1146, .iadd, 1), (1147, .iaload, 1), (1148, .aload_n 0, 1), (1149, .iload_n 3, 1), (1150, .iconst 2, 1), (1151, .iadd, 1), (1152, .iaload, 1), (1153, .aload_n 0, 1), (1154, .iload_n 3, 1), (1155, .iconst 3, 1), (1156, .iadd, 1), (1157, .iaload, 1), (1158, .invokevirtual 150, 3), (1161, .pop, 1), (1162, .goto 135, 3), (1165, .aload_n 1, 1), (1166, .aload_n 0, 1), (1167, .iload_n 3, 1), (1168, .iconst 1, 1), (1169, .iadd, 1), (1170, .iaload, 1), (1171, .aload_n 0, 1)]
theorem tc_19_ok : ∀ q ∈ tc_19, decode cL_law q.1 = .ok (q.2.1, q.2.2) := by decide +kernel
def tc_20 : List (Nat × Instr × Nat) := [(1172, .iload_n 3, 1), (1173, .iconst 2, 1), (1174, .iadd, 1), (1175, .iaload, 1), (1176, .aload_n 0, 1), (1177, .iload_n 3, 1), (1178, .iconst 3, 1), (1179, .iadd, 1), (1180, .iaload, 1), (1181, .invokevirtual 151, 3), (1184, .pop, 1), (1185, .aload_n 2, 1), (1186, .aload_n 0, 1), (1187, .iload_n 3, 1), (1188, .iconst 1, 1), (1189, .iadd, 1), (1190, .iaload, 1), (1191, .aload_n 0, 1), (1192, .iload_n 3, 1), (1193, .iconst 2, 1), (1194, .iadd, 1), (1195, .iaload, 1), (1196, .aload_n 0, 1), (1197, .iload_n 3, 1), (1198, .iconst 3, 1), (1199, .iadd, 1), (1200, .iaload, 1), (1201, .invokevirtual 154, 3), (1204, .pop, 1), (1205, .goto 92, 3), (1208, .aload_n 1, 1), (1209, .aload_n 0, 1), (1210, .iload_n 3, 1), (1211, .iconst 1, 1), (1212, .iadd, 1), (1213, .iaload, 1), (1214, .aload_n 0, 1), (1215, .iload_n 3, 1), (1216, .iconst 2, 1), (1217, .iadd, 1)]
theorem tc_20_ok : ∀ q ∈ tc_20, decode cL_law q.1 = .ok (q.2.1, q.2.2) := by decide +kernel
def tc_21 : List (Nat × Instr × Nat) := [(1218, .iaload, 1), (1219, .aload_n 0, 1), (1220, .iload_n 3, 1), (1221, .iconst 3, 1), (1222, .iadd, 1), (1223, .iaload, 1), (1224, .aload_n 0, 1), (1225, .iload_n 3, 1), (1226, .iconst 4, 1), (1227, .iadd, 1), (1228, .iaload, 1), (1229, .invokevirtual 155, 3), (1232, .pop, 1), (1233, .aload_n 2, 1), (1234, .aload_n 0, 1), (1235, .iload_n 3, 1), (1236, .iconst 1, 1), (1237, .iadd, 1), (1238, .iaload, 1), (1239, .aload_n 0, 1), (1240, .iload_n 3, 1), (1241, .iconst 2, 1), (1242, .iadd, 1), (1243, .iaload, 1), (1244, .aload_n 0, 1), (1245, .iload_n 3, 1), (1246, .iconst 3, 1), (1247, .iadd, 1), (1248, .iaload, 1), (1249, .aload_n 0, 1), (1250, .iload_n 3, 1), (1251, .iconst 4, 1), (1252, .iadd, 1), (1253, .iaload, 1), (1254, .invokevirtual 158, 3), (1257, .pop, 1), (1258, .goto 39, 3), (1261, .aload_n 1, 1), (1262, .invokevirtual 159, 3), (1265, .pop, 1)]
theorem tc_21_ok : ∀ q ∈ tc_21, decode cL_law q.1 = .ok (q.2.1, q.2.2) := by decide +kernel
def tc_22 : List (Nat × Instr × Nat) := [(1266, .aload_n 2, 1), (1267, .invokevirtual 162, 3), (1270, .pop, 1), (1271, .goto 26, 3), (1274, .aload_n 1, 1), (1275, .aload_n 0, 1), (1276, .iload_n 3, 1), (1277, .iconst 1, 1), (1278, .iadd, 1), (1279, .iaload, 1), (1280, .invokevirtual 163, 3), (1283, .pop, 1), (1284, .aload_n 2, 1), (1285, .aload_n 0, 1), (1286, .iload_n 3, 1), (1287, .iconst 1, 1), (1288, .iadd, 1), (1289, .iaload, 1), (1290, .invokevirtual 166, 3), (1293, .pop, 1), (1294, .goto 3, 3), (1297, .iinc 3 5, 3), (1300, .goto (-1282), 3), (1303, .iconst 1, 1), (1304, .ireturn, 1)]
theorem tc_22_ok : ∀ q ∈ tc_22, decode cL_law q.1 = .ok (q.2.1, q.2.2) := by decide +kernel
set_option maxRecDepth 100000 in
theorem tv_i169 : ∀ q ∈ tb_i169, decode cL_law q.1 = .ok (q.2.1, q.2.2) := by
  rw [show tb_i169 = tc_0 ++ (tc_1 ++ (tc_2 ++ (tc_3 ++ (tc_4 ++ (tc_5 ++ (tc_6 ++ (tc_7 ++ (tc_8 ++ (tc_9 ++ (tc_10 ++ (tc_11 ++ (tc_12 ++ (tc_13 ++ (tc_14 ++ (tc_15 ++ (tc_16 ++ (tc_17 ++ (tc_18 ++ (tc_19 ++ (tc_20 ++ (tc_21 ++ (tc_22)))))))))))))))))))))) from rfl]
  exact List.forall_mem_append.mpr ⟨tc_0_ok, List.forall_mem_append.mpr ⟨tc_1_ok, List.forall_mem_append.mpr ⟨tc_2_ok, List.forall_mem_append.mpr ⟨tc_3_ok, List.forall_mem_append.mpr ⟨tc_4_ok, List.forall_mem_append.mpr ⟨tc_5_ok, List.forall_mem_append.mpr ⟨tc_6_ok, List.forall_mem_append.mpr ⟨tc_7_ok, List.forall_mem_append.mpr ⟨tc_8_ok, List.forall_mem_append.mpr ⟨tc_9_ok, List.forall_mem_append.mpr ⟨tc_10_ok, List.forall_mem_append.mpr ⟨tc_11_ok, List.forall_mem_append.mpr ⟨tc_12_ok, List.forall_mem_append.mpr ⟨tc_13_ok, List.forall_mem_append.mpr ⟨tc_14_ok, List.forall_mem_append.mpr ⟨tc_15_ok, List.forall_mem_append.mpr ⟨tc_16_ok, List.forall_mem_append.mpr ⟨tc_17_ok, List.forall_mem_append.mpr ⟨tc_18_ok, List.forall_mem_append.mpr ⟨tc_19_ok, List.forall_mem_append.mpr ⟨tc_20_ok, List.forall_mem_append.mpr ⟨tc_21_ok, tc_22_ok⟩⟩⟩⟩⟩⟩⟩⟩⟩⟩⟩⟩⟩⟩⟩⟩⟩⟩⟩⟩⟩⟩
theorem tv_m0 : (ai_mok tb_m0 ∧ plainName tb_m0.1.cls = true) ∧ ∀ q ∈ tb_m0.2.2.2.2.2.2.2.2.2.2.1, ai_lok tb_MT tb_m0.1.cls q := ⟨⟨⟨tv_i0, tv_fl_RX0, tv_fp_RX0, tv_ci_RX0, tv_cl_RX0⟩, by decide +kernel⟩, tv_ml_RX0⟩
theorem tv_m1 : (ai_mok tb_m1 ∧ plainName tb_m1.1.cls = true) ∧ ∀ q ∈ tb_m1.2.2.2.2.2.2.2.2.2.2.1, ai_lok tb_MT tb_m1.1.cls q := ⟨⟨⟨tv_i1, tv_fl_RX0, tv_fp_RX0, tv_ci_RX0, tv_cl_RX0⟩, by decide +kernel⟩, tv_ml_RX0⟩
theorem tv_m2 : (ai_mok tb_m2 ∧ plainName tb_m2.1.cls = true) ∧ ∀ q ∈ tb_m2.2.2.2.2.2.2.2.2.2.2.1, ai_lok tb_MT tb_m2.1.cls q := ⟨⟨⟨tv_i2, tv_fl_RX0, tv_fp_RX0, tv_ci_RX0, tv_cl_RX0⟩, by decide +kernel⟩, tv_ml_RX0⟩
theorem tv_m3 : (ai_mok tb_m3 ∧ plainName tb_m3.1.cls = true) ∧ ∀ q ∈ tb_m3.2.2.2.2.2.2.2.2.2.2.1, ai_lok tb_MT tb_m3.1.cls q := ⟨⟨⟨tv_i3, tv_fl_RX0, tv_fp_RX0, tv_ci_RX0, tv_cl_RX0⟩, by decide +kernel⟩, tv_ml_RX0⟩
theorem tv_m4 : (ai_mok tb_m4 ∧ plainName tb_m4.1.cls = true) ∧ ∀ q ∈ tb_m4.2.2.2.2.2.2.2.2.2.2.1, ai_lok tb_MT tb_m4.1.cls q := ⟨⟨⟨tv_i4, tv_fl_RX0, tv_fp_RX0, tv_ci_RX0, tv_cl_RX0⟩, by decide +kernel⟩, tv_ml_RX0⟩
theorem tv_m5 : (ai_mok tb_m5 ∧ plainName tb_m5.1.cls = true) ∧ ∀ q ∈ tb_m5.2.2.2.2.2.2.2.2.2.2.1, ai_lok tb_MT tb_m5.1.cls q := ⟨⟨⟨tv_i5, tv_fl_RX0, tv_fp_RX0, tv_ci_RX0, tv_cl_RX0⟩, by decide +kernel⟩, tv_ml_RX0⟩
theorem tv_m6 : (ai_mok tb_m6 ∧ plainName tb_m6.1.cls = true) ∧ ∀ q ∈ tb_m6.2.2.2.2.2.2.2.2.2.2.1, ai_lok tb_MT tb_m6.1.cls q := ⟨⟨⟨tv_i6, tv_fl_RX0, tv_fp_RX0, tv_ci_RX0, tv_cl_RX0⟩, by decide +kernel⟩, tv_ml_RX0⟩
theorem tv_m7 : (ai_mok tb_m7 ∧ plainName tb_m7.1.cls = true) ∧ ∀ q ∈ tb_m7.2.2.2.2.2.2.2.2.2.2.1, ai_lok tb_MT tb_m7.1.cls q := ⟨⟨⟨tv_i7, tv_fl_RX0, tv_fp_RX0, tv_ci_RX0, tv_cl_RX0⟩, by decide +kernel⟩, tv_ml_RX0⟩
theorem tv_m8 : (ai_mok tb_m8 ∧ plainName tb_m8.1.cls = true) ∧ ∀ q ∈ tb_m8.2.2.2.2.2.2.2.2.2.2.1, ai_lok tb_MT tb_m8.1.cls q := ⟨⟨⟨tv_i8, tv_fl_RX0, tv_fp_RX0, tv_ci_RX0, tv_cl_RX0⟩, by decide +kernel⟩, tv_ml_RX0⟩
theorem tv_m9 : (ai_mok tb_m9 ∧ plainName tb_m9.1.cls = true) ∧ ∀ q ∈ tb_m9.2.2.2.2.2.2.2.2.2.2.1, ai_lok tb_MT tb_m9.1.cls q := ⟨⟨⟨tv_i9, tv_fl_RX0, tv_fp_RX0, tv_ci_RX0, tv_cl_RX0⟩, by decide +kernel⟩, tv_ml_RX0⟩
theorem tv_m10 : (ai_mok tb_m10 ∧ plainName tb_m10.1.cls = true) ∧ ∀ q ∈ tb_m10.2.2.2.2.2.2.2.2.2.2.1, ai_lok tb_MT tb_m10.1.cls q := ⟨⟨⟨tv_i10, tv_fl_RX0, tv_fp_RX0, tv_ci_RX0, tv_cl_RX0⟩, by decide +kernel⟩, tv_ml_RX0⟩
theorem tv_m11 : (ai_mok tb_m11 ∧ plainName tb_m11.1.cls = true) ∧ ∀ q ∈ tb_m11.2.2.2.2.2.2.2.2.2.2.1, ai_lok tb_MT tb_m11.1.cls q := ⟨⟨⟨tv_i11, tv_fl_RX0, tv_fp_RX0, tv_ci_RX0, tv_cl_RX0⟩, by decide +kernel⟩, tv_ml_RX0⟩
theorem tv_m12 : (ai_mok tb_m12 ∧ plainName tb_m12.1.cls = true) ∧ ∀ q ∈ tb_m12.2.2.2.2.2.2.2.2.2.2.1, ai_lok tb_MT tb_m12.1.cls q := ⟨⟨⟨tv_i12, tv_fl_RX0, tv_fp_RX0, tv_ci_RX0, tv_cl_RX0⟩, by decide +kernel⟩, tv_ml_RX0⟩
theorem tv_m13 : (ai_mok tb_m13 ∧ plainName tb_m13.1.cls = true) ∧ ∀ q ∈ tb_m13.2.2.2.2.2.2.2.2.2.2.1, ai_lok tb_MT tb_m13.1.cls q := ⟨⟨⟨tv_i13, tv_fl_RX0, tv_fp_RX0, tv_ci_RX0, tv_cl_RX0⟩, by decide +kernel⟩, tv_ml_RX0⟩
theorem tv_m14 : (ai_mok tb_m14 ∧ plainName tb_m14.1.cls = true) ∧ ∀ q ∈ tb_m14.2.2.2.2.2.2.2.2.2.2.1, ai_lok tb_MT tb_m14.1.cls q := ⟨⟨⟨tv_i14, tv_fl_RX0, tv_fp_RX0, tv_ci_RX0, tv_cl_RX0⟩, by decide +kernel⟩, tv_ml_RX0⟩
theorem tv_m15 : (ai_mok tb_m15 ∧ plainName tb_m15.1.cls = true) ∧ ∀ q ∈ tb_m15.2.2.2.2.2.2.2.2.2.2.1, ai_lok tb_MT tb_m15.1.cls q := ⟨⟨⟨tv_i15, tv_fl_RX0, tv_fp_RX0, tv_ci_RX0, tv_cl_RX0⟩, by decide +kernel⟩, tv_ml_RX0⟩
theorem tv_m16 : (ai_mok tb_m16 ∧ plainName tb_m16.1.cls = true) ∧ ∀ q ∈ tb_m16.2.2.2.2.2.2.2.2.2.2.1, ai_lok tb_MT tb_m16.1.cls q := ⟨⟨⟨tv_i16, tv_fl_RX0, tv_fp_RX0, tv_ci_RX0, tv_cl_RX0⟩, by decide +kernel⟩, tv_ml_RX0⟩
theorem tv_m17 : (ai_mok tb_m17 ∧ plainName tb_m17.1.cls = true) ∧ ∀ q ∈ tb_m17.2.2.2.2.2.2.2.2.2.2.1, ai_lok tb_MT tb_m17.1.cls q := ⟨⟨⟨tv_i17, tv_fl_RX0, tv_fp_RX0, tv_ci_RX0, tv_cl_RX0⟩, by decide +kernel⟩, tv_ml_RX0⟩
theorem tv_m18 : (ai_mok tb_m18 ∧ plainName tb_m18.1.cls = true) ∧ ∀ q ∈ tb_m18.2.2.2.2.2.2.2.2.2.2.1, ai_lok tb_MT tb_m18.1.cls q := ⟨⟨⟨tv_i18, tv_fl_RX1, tv_fp_RX1, tv_ci_RX1, tv_cl_RX1⟩, by decide +kernel⟩, tv_ml_RX1⟩
theorem tv_m19 : (ai_mok tb_m19 ∧ plainName tb_m19.1.cls = true) ∧ ∀ q ∈ tb_m19.2.2.2.2.2.2.2.2.2.2.1, ai_lok tb_MT tb_m19.1.cls q := ⟨⟨⟨tv_i19, tv_fl_RX1, tv_fp_RX1, tv_ci_RX1, tv_cl_RX1⟩, by decide +kernel⟩, tv_ml_RX1⟩
theorem tv_m20 : (ai_mok tb_m20 ∧ plainName tb_m20.1.cls = true) ∧ ∀ q ∈ tb_m20.2.2.2.2.2.2.2.2.2.2.1, ai_lok tb_MT tb_m20.1.cls q := ⟨⟨⟨tv_i20, tv_fl_RX1, tv_fp_RX1, tv_ci_RX1, tv_cl_RX1⟩, by decide +kernel⟩, tv_ml_RX1⟩
theorem tv_m21 : (ai_mok tb_m21 ∧ plainName tb_m21.1.cls = true) ∧ ∀ q ∈ tb_m21.2.2.2.2.2.2.2.2.2.2.1, ai_lok tb_MT tb_m21.1.cls q := ⟨⟨⟨tv_i21, tv_fl_RX1, tv_fp_RX1, tv_ci_RX1, tv_cl_RX1⟩, by decide +kernel⟩, tv_ml_RX1⟩
theorem tv_m22 : (ai_mok tb_m22 ∧ plainName tb_m22.1.cls = true) ∧ ∀ q ∈ tb_m22.2.2.2.2.2.2.2.2.2.2.1, ai_lok tb_MT tb_m22.1.cls q := ⟨⟨⟨tv_i22, tv_fl_RX1, tv_fp_RX1, tv_ci_RX1, tv_cl_RX1⟩, by decide +kernel⟩, tv_ml_RX1⟩
theorem tv_m23 : (ai_mok tb_m23 ∧ plainName tb_m23.1.cls = true) ∧ ∀ q ∈ tb_m23.2.2.2.2.2.2.2.2.2.2.1, ai_lok tb_MT tb_m23.1.cls q := ⟨⟨⟨tv_i23, tv_fl_RX1, tv_fp_RX1, tv_ci_RX1, tv_cl_RX1⟩, by decide +kernel⟩, tv_ml_RX1⟩
theorem tv_m24 : (ai_mok tb_m24 ∧ plainName tb_m24.1.cls = true) ∧ ∀ q ∈ tb_m24.2.2.2.2.2.2.2.2.2.2.1, ai_lok tb_MT tb_m24.1.cls q := ⟨⟨⟨tv_i24, tv_fl_RX2, tv_fp_RX2, tv_ci_RX2, tv_cl_RX2⟩, by decide +kernel⟩, tv_ml_RX2⟩
theorem tv_m25 : (ai_mok tb_m25 ∧ plainName tb_m25.1.cls = true) ∧ ∀ q ∈ tb_m25.2.2.2.2.2.2.2.2.2.2.1, ai_lok tb_MT tb_m25.1.cls q := ⟨⟨⟨tv_i25, tv_fl_RX2, tv_fp_RX2, tv_ci_RX2, tv_cl_RX2⟩, by decide +kernel⟩, tv_ml_RX2⟩
theorem tv_m26 : (ai_mok tb_m26 ∧ plainName tb_m26.1.cls = true) ∧ ∀ q ∈ tb_m26.2.2.2.2.2.2.2.2.2.2.1, ai_lok tb_MT tb_m26.1.cls q := ⟨⟨⟨tv_i26, tv_fl_RX2, tv_fp_RX2, tv_ci_RX2, tv_cl_RX2⟩, by decide +kernel⟩, tv_ml_RX2⟩
theorem tv_m27 : (ai_mok tb_m27 ∧ plainName tb_m27.1.cls = true) ∧ ∀ q ∈ tb_m27.2.2.2.2.2.2.2.2.2.2.1, ai_lok tb_MT tb_m27.1.cls q := ⟨⟨⟨tv_i27, tv_fl_RX2, tv_fp_RX2, tv_ci_RX2, tv_cl_RX2⟩, by decide +kernel⟩, tv_ml_RX2⟩
theorem tv_m28 : (ai_mok tb_m28 ∧ plainName tb_m28.1.cls = true) ∧ ∀ q ∈ tb_m28.2.2.2.2.2.2.2.2.2.2.1, ai_lok tb_MT tb_m28.1.cls q := ⟨⟨⟨tv_i28, tv_fl_RX2, tv_fp_RX2, tv_ci_RX2, tv_cl_RX2⟩, by decide +kernel⟩, tv_ml_RX2⟩
theorem tv_m29 : (ai_mok tb_m29 ∧ plainName tb_m29.1.cls = true) ∧ ∀ q ∈ tb_m29.2.2.2.2.2.2.2.2.2.2.1, ai_lok tb_MT tb_m29.1.cls q := ⟨⟨⟨tv_i29, tv_fl_RX2, tv_fp_RX2, tv_ci_RX2, tv_cl_RX2⟩, by decide +kernel⟩, tv_ml_RX2⟩
theorem tv_m30 : (ai_mok tb_m30 ∧ plainName tb_m30.1.cls = true) ∧ ∀ q ∈ tb_m30.2.2.2.2.2.2.2.2.2.2.1, ai_lok tb_MT tb_m30.1.cls q := ⟨⟨⟨tv_i30, tv_fl_RX2, tv_fp_RX2, tv_ci_RX2, tv_cl_RX2⟩, by decide +kernel⟩, tv_ml_RX2⟩
theorem tv_m31 : (ai_mok tb_m31 ∧ plainName tb_m31.1.cls = true) ∧ ∀ q ∈ tb_m31.2.2.2.2.2.2.2.2.2.2.1, ai_lok tb_MT tb_m31.1.cls q := ⟨⟨⟨tv_i31, tv_fl_RX2, tv_fp_RX2, tv_ci_RX2, tv_cl_RX2⟩, by decide +kernel⟩, tv_ml_RX2⟩
theorem tv_m32 : (ai_mok tb_m32 ∧ plainName tb_m32.1.cls = true) ∧ ∀ q ∈ tb_m32.2.2.2.2.2.2.2.2.2.2.1, ai_lok tb_MT tb_m32.1.cls q := ⟨⟨⟨tv_i32, tv_fl_RX2, tv_fp_RX2, tv_ci_RX2, tv_cl_RX2⟩, by decide +kernel⟩, tv_ml_RX2⟩
theorem tv_m33 : (ai_mok tb_m33 ∧ plainName tb_m33.1.cls = true) ∧ ∀ q ∈ tb_m33.2.2.2.2.2.2.2.2.2.2.1, ai_lok tb_MT tb_m33.1.cls q := ⟨⟨⟨tv_i33, tv_fl_RX2, tv_fp_RX2, tv_ci_RX2, tv_cl_RX2⟩, by decide +kernel⟩, tv_ml_RX2⟩
theorem tv_m34 : (ai_mok tb_m34 ∧ plainName tb_m34.1.cls = true) ∧ ∀ q ∈ tb_m34.2.2.2.2.2.2.2.2.2.2.1, ai_lok tb_MT tb_m34.1.cls q := ⟨⟨⟨tv_i34, tv_fl_RX2, tv_fp_RX2, tv_ci_RX2, tv_cl_RX2⟩, by decide +kernel⟩, tv_ml_RX2⟩
theorem tv_m35 : (ai_mok tb_m35 ∧ plainName tb_m35.1.cls = true) ∧ ∀ q ∈ tb_m35.2.2.2.2.2.2.2.2.2.2.1, ai_lok tb_MT tb_m35.1.cls q := ⟨⟨⟨tv_i35, tv_fl_RX2, tv_fp_RX2, tv_ci_RX2, tv_cl_RX2⟩, by decide +kernel⟩, tv_ml_RX2⟩
theorem tv_m36 : (ai_mok tb_m36 ∧ plainName tb_m36.1.cls = true) ∧ ∀ q ∈ tb_m36.2.2.2.2.2.2.2.2.2.2.1, ai_lok tb_MT tb_m36.1.cls q := ⟨⟨⟨tv_i36, tv_fl_RX2, tv_fp_RX2, tv_ci_RX2, tv_cl_RX2⟩, by decide +kernel⟩, tv_ml_RX2⟩
theorem tv_m37 : (ai_mok tb_m37 ∧ plainName tb_m37.1.cls = true) ∧ ∀ q ∈ tb_m37.2.2.2.2.2.2.2.2.2.2.1, ai_lok tb_MT tb_m37.1.cls q := ⟨⟨⟨tv_i37, tv_fl_RX2, tv_fp_RX2, tv_ci_RX2, tv_cl_RX2⟩, by decide +kernel⟩, tv_ml_RX2⟩
theorem tv_m38 : (ai_mok tb_m38 ∧ plainName tb_m38.1.cls = true) ∧ ∀ q ∈ tb_m38.2.2.2.2.2.2.2.2.2.2.1, ai_lok tb_MT tb_m38.1.cls q := ⟨⟨⟨tv_i38, tv_fl_RX3, tv_fp_RX3, tv_ci_RX3, tv_cl_RX3⟩, by decide +kernel⟩, tv_ml_RX3⟩
theorem tv_m39 : (ai_mok tb_m39 ∧ plainName tb_m39.1.cls = true) ∧ ∀ q ∈ tb_m39.2.2.2.2.2.2.2.2.2.2.1, ai_lok tb_MT tb_m39.1.cls q := ⟨⟨⟨tv_i39, tv_fl_RX3, tv_fp_RX3, tv_ci_RX3, tv_cl_RX3⟩, by decide +kernel⟩, tv_ml_RX3⟩
theorem tv_m40 : (ai_mok tb_m40 ∧ plainName tb_m40.1.cls = true) ∧ ∀ q ∈ tb_m40.2.2.2.2.2.2.2.2.2.2.1, ai_lok tb_MT tb_m40.1.cls q := ⟨⟨⟨tv_i40, tv_fl_RX3, tv_fp_RX3, tv_ci_RX3, tv_cl_RX3⟩, by decide +kernel⟩, tv_ml_RX3⟩
theorem tv_m41 : (ai_mok tb_m41 ∧ plainName tb_m41.1.cls = true) ∧ ∀ q ∈ tb_m41.2.2.2.2.2.2.2.2.2.2.1, ai_lok tb_MT tb_m41.1.cls q := ⟨⟨⟨tv_i41, tv_fl_RX3, tv_fp_RX3, tv_ci_RX3, tv_cl_RX3⟩, by decide +kernel⟩, tv_ml_RX3⟩
theorem tv_m42 : (ai_mok tb_m42 ∧ plainName tb_m42.1.cls = true) ∧ ∀ q ∈ tb_m42.2.2.2.2.2.2.2.2.2.2.1, ai_lok tb_MT tb_m42.1.cls q := ⟨⟨⟨tv_i42, tv_fl_RX3, tv_fp_RX3, tv_ci_RX3, tv_cl_RX3⟩, by decide +kernel⟩, tv_ml_RX3⟩
theorem tv_m43 : (ai_mok tb_m43 ∧ plainName tb_m43.1.cls = true) ∧ ∀ q ∈ tb_m43.2.2.2.2.2.2.2.2.2.2.1, ai_lok tb_MT tb_m43.1.cls q := ⟨⟨⟨tv_i43, tv_fl_RX3, tv_fp_RX3, tv_ci_RX3, tv_cl_RX3⟩, by decide +kernel⟩, tv_ml_RX3⟩
theorem tv_m44 : (ai_mok tb_m44 ∧ plainName tb_m44.1.cls = true) ∧ ∀ q ∈ tb_m44.2.2.2.2.2.2.2.2.2.2.1, ai_lok tb_MT tb_m44.1.cls q := ⟨⟨⟨tv_i44, tv_fl_RX4, tv_fp_RX4, tv_ci_RX4, tv_cl_RX4⟩, by decide +kernel⟩, tv_ml_RX4⟩
theorem tv_m45 : (ai_mok tb_m45 ∧ plainName tb_m45.1.cls = true) ∧ ∀ q ∈ tb_m45.2.2.2.2.2.2.2.2.2.2.1, ai_lok tb_MT tb_m45.1.cls q := ⟨⟨⟨tv_i45, tv_fl_RX4, tv_fp_RX4, tv_ci_RX4, tv_cl_RX4⟩, by decide +kernel⟩, tv_ml_RX4⟩
theorem tv_m46 : (ai_mok tb_m46 ∧ plainName tb_m46.1.cls = true) ∧ ∀ q ∈ tb_m46.2.2.2.2.2.2.2.2.2.2.1, ai_lok tb_MT tb_m46.1.cls q := ⟨⟨⟨tv_i46, tv_fl_RX5, tv_fp_RX5, tv_ci_RX5, tv_cl_RX5⟩, by decide +kernel⟩, tv_ml_RX5⟩
theorem tv_m47 : (ai_mok tb_m47 ∧ plainName tb_m47.1.cls = true) ∧ ∀ q ∈ tb_m47.2.2.2.2.2.2.2.2.2.2.1, ai_lok tb_MT tb_m47.1.cls q := ⟨⟨⟨tv_i47, tv_fl_RX5, tv_fp_RX5, tv_ci_RX5, tv_cl_RX5⟩, by decide +kernel⟩, tv_ml_RX5⟩
theorem tv_m48 : (ai_mok tb_m48 ∧ plainName tb_m48.1.cls = true) ∧ ∀ q ∈ tb_m48.2.2.2.2.2.2.2.2.2.2.1, ai_lok tb_MT tb_m48.1.cls q := ⟨⟨⟨tv_i48, tv_fl_RX5, tv_fp_RX5, tv_ci_RX5, tv_cl_RX5⟩, by decide +kernel⟩, tv_ml_RX5⟩
theorem tv_m49 : (ai_mok tb_m49 ∧ plainName tb_m49.1.cls = true) ∧ ∀ q ∈ tb_m49.2.2.2.2.2.2.2.2.2.2.1, ai_lok tb_MT tb_m49.1.cls q := ⟨⟨⟨tv_i49, tv_fl_RX5, tv_fp_RX5, tv_ci_RX5, tv_cl_RX5⟩, by decide +kernel⟩, tv_ml_RX5⟩
theorem tv_m50 : (ai_mok tb_m50 ∧ plainName tb_m50.1.cls = true) ∧ ∀ q ∈ tb_m50.2.2.2.2.2.2.2.2.2.2.1, ai_lok tb_MT tb_m50.1.cls q := ⟨⟨⟨tv_i50, tv_fl_RX5, tv_fp_RX5, tv_ci_RX5, tv_cl_RX5⟩, by decide +kernel⟩, tv_ml_RX5⟩
theorem tv_m51 : (ai_mok tb_m51 ∧ plainName tb_m51.1.cls = true) ∧ ∀ q ∈ tb_m51.2.2.2.2.2.2.2.2.2.2.1, ai_lok tb_MT tb_m51.1.cls q := ⟨⟨⟨tv_i51, tv_fl_RX5, tv_fp_RX5, tv_ci_RX5, tv_cl_RX5⟩, by decide +kernel⟩, tv_ml_RX5⟩
theorem tv_m52 : (ai_mok tb_m52 ∧ plainName tb_m52.1.cls = true) ∧ ∀ q ∈ tb_m52.2.2.2.2.2.2.2.2.2.2.1, ai_lok tb_MT tb_m52.1.cls q := ⟨⟨⟨tv_i52, tv_fl_RX5, tv_fp_RX5, tv_ci_RX5, tv_cl_RX5⟩, by decide +kernel⟩, tv_ml_RX5⟩
theorem tv_m53 : (ai_mok tb_m53 ∧ plainName tb_m53.1.cls = true) ∧ ∀ q ∈ tb_m53.2.2.2.2.2.2.2.2.2.2.1, ai_lok tb_MT tb_m53.1.cls q := ⟨⟨⟨tv_i53, tv_fl_RX5, tv_fp_RX5, tv_ci_RX5, tv_cl_RX5⟩, by decide +kernel⟩, tv_ml_RX5⟩
theorem tv_m54 : (ai_mok tb_m54 ∧ plainName tb_m54.1.cls = true) ∧ ∀ q ∈ tb_m54.2.2.2.2.2.2.2.2.2.2.1, ai_lok tb_MT tb_m54.1.cls q := ⟨⟨⟨tv_i54, tv_fl_RX5, tv_fp_RX5, tv_ci_RX5, tv_cl_RX5⟩, by decide +kernel⟩, tv_ml_RX5⟩
theorem tv_m55 : (ai_mok tb_m55 ∧ plainName tb_m55.1.cls = true) ∧ ∀ q ∈ tb_m55.2.2.2.2.2.2.2.2.2.2.1, ai_lok tb_MT tb_m55.1.cls q := ⟨⟨⟨tv_i55, tv_fl_RX5, tv_fp_RX5, tv_ci_RX5, tv_cl_RX5⟩, by decide +kernel⟩, tv_ml_RX5⟩
theorem tv_m56 : (ai_mok tb_m56 ∧ plainName tb_m56.1.cls = true) ∧ ∀ q ∈ tb_m56.2.2.2.2.2.2.2.2.2.2.1, ai_lok tb_MT tb_m56.1.cls q := ⟨⟨⟨tv_i56, tv_fl_RX5, tv_fp_RX5, tv_ci_RX5, tv_cl_RX5⟩, by decide +kernel⟩, tv_ml_RX5⟩
theorem tv_m57 : (ai_mok tb_m57 ∧ plainName tb_m57.1.cls = true) ∧ ∀ q ∈ tb_m57.2.2.2.2.2.2.2.2.2.2.1, ai_lok tb_MT tb_m57.1.cls q := ⟨⟨⟨tv_i57, tv_fl_RX5, tv_fp_RX5, tv_ci_RX5, tv_cl_RX5⟩, by decide +kernel⟩, tv_ml_RX5⟩
theorem tv_m58 : (ai_mok tb_m58 ∧ plainName tb_m58.1.cls = true) ∧ ∀ q ∈ tb_m58.2.2.2.2.2.2.2.2.2.2.1, ai_lok tb_MT tb_m58.1.cls q := ⟨⟨⟨tv_i58, tv_fl_RX5, tv_fp_RX5, tv_ci_RX5, tv_cl_RX5⟩, by decide +kernel⟩, tv_ml_RX5⟩
theorem tv_m59 : (ai_mok tb_m59 ∧ plainName tb_m59.1.cls = true) ∧ ∀ q ∈ tb_m59.2.2.2.2.2.2.2.2.2.2.1, ai_lok tb_MT tb_m59.1.cls q := ⟨⟨⟨tv_i59, tv_fl_RX5, tv_fp_RX5, tv_ci_RX5, tv_cl_RX5⟩, by decide +kernel⟩, tv_ml_RX5⟩
theorem tv_m60 : (ai_mok tb_m60 ∧ plainName tb_m60.1.cls = true) ∧ ∀ q ∈ tb_m60.2.2.2.2.2.2.2.2.2.2.1, ai_lok tb_MT tb_m60.1.cls q := ⟨⟨⟨tv_i60, tv_fl_RX5, tv_fp_RX5, tv_ci_RX5, tv_cl_RX5⟩, by decide +kernel⟩, tv_ml_RX5⟩
theorem tv_m61 : (ai_mok tb_m61 ∧ plainName tb_m61.1.cls = true) ∧ ∀ q ∈ tb_m61.2.2.2.2.2.2.2.2.2.2.1, ai_lok tb_MT tb_m61.1.cls q := ⟨⟨⟨tv_i61, tv_fl_RX5, tv_fp_RX5, tv_ci_RX5, tv_cl_RX5⟩, by decide +kernel⟩, tv_ml_RX5⟩
theorem tv_m62 : (ai_mok tb_m62 ∧ plainName tb_m62.1.cls = true) ∧ ∀ q ∈ tb_m62.2.2.2.2.2.2.2.2.2.2.1, ai_lok tb_MT tb_m62.1.cls q := ⟨⟨⟨tv_i62, tv_fl_RX5, tv_fp_RX5, tv_ci_RX5, tv_cl_RX5⟩, by decide +kernel⟩, tv_ml_RX5⟩
theorem tv_m63 : (ai_mok tb_m63 ∧ plainName tb_m63.1.cls = true) ∧ ∀ q ∈ tb_m63.2.2.2.2.2.2.2.2.2.2.1, ai_lok tb_MT tb_m63.1.cls q := ⟨⟨⟨tv_i63, tv_fl_RX5, tv_fp_RX5, tv_ci_RX5, tv_cl_RX5⟩, by decide +kernel⟩, tv_ml_RX5⟩
theorem tv_m64 : (ai_mok tb_m64 ∧ plainName tb_m64.1.cls = true) ∧ ∀ q ∈ tb_m64.2.2.2.2.2.2.2.2.2.2.1, ai_lok tb_MT tb_m64.1.cls q := ⟨⟨⟨tv_i64, tv_fl_RX5, tv_fp_RX5, tv_ci_RX5, tv_cl_RX5⟩, by decide +kernel⟩, tv_ml_RX5⟩
theorem tv_m65 : (ai_mok tb_m65 ∧ plainName tb_m65.1.cls = true) ∧ ∀ q ∈ tb_m65.2.2.2.2.2.2.2.2.2.2.1, ai_lok tb_MT tb_m65.1.cls q := ⟨⟨⟨tv_i65, tv_fl_RX5, tv_fp_RX5, tv_ci_RX5, tv_cl_RX5⟩, by decide +kernel⟩, tv_ml_RX5⟩
theorem tv_m66 : (ai_mok tb_m66 ∧ plainName tb_m66.1.cls = true) ∧ ∀ q ∈ tb_m66.2.2.2.2.2.2.2.2.2.2.1, ai_lok tb_MT tb_m66.1.cls q := ⟨⟨⟨tv_i66, tv_fl_RX5, tv_fp_RX5, tv_ci_RX5, tv_cl_RX5⟩, by decide +kernel⟩, tv_ml_RX5⟩
theorem tv_m67 : (ai_mok tb_m67 ∧ plainName tb_m67.1.cls = true) ∧ ∀ q ∈ tb_m67.2.2.2.2.2.2.2.2.2.2.1, ai_lok tb_MT tb_m67.1.cls q := ⟨⟨⟨tv_i67, tv_fl_RX5, tv_fp_RX5, tv_ci_RX5, tv_cl_RX5⟩, by decide +kernel⟩, tv_ml_RX5⟩
theorem tv_m68 : (ai_mok tb_m68 ∧ plainName tb_m68.1.cls = true) ∧ ∀ q ∈ tb_m68.2.2.2.2.2.2.2.2.2.2.1, ai_lok tb_MT tb_m68.1.cls q := ⟨⟨⟨tv_i68, tv_fl_RX5, tv_fp_RX5, tv_ci_RX5, tv_cl_RX5⟩, by decide +kernel⟩, tv_ml_RX5⟩
theorem tv_m69 : (ai_mok tb_m69 ∧ plainName tb_m69.1.cls = true) ∧ ∀ q ∈ tb_m69.2.2.2.2.2.2.2.2.2.2.1, ai_lok tb_MT tb_m69.1.cls q := ⟨⟨⟨tv_i69, tv_fl_RX5, tv_fp_RX5, tv_ci_RX5, tv_cl_RX5⟩, by decide +kernel⟩, tv_ml_RX5⟩
theorem tv_m70 : (ai_mok tb_m70 ∧ plainName tb_m70.1.cls = true) ∧ ∀ q ∈ tb_m70.2.2.2.2.2.2.2.2.2.2.1, ai_lok tb_MT tb_m70.1.cls q := ⟨⟨⟨tv_i70, tv_fl_RX5, tv_fp_RX5, tv_ci_RX5, tv_cl_RX5⟩, by decide +kernel⟩, tv_ml_RX5⟩
theorem tv_m71 : (ai_mok tb_m71 ∧ plainName tb_m71.1.cls = true) ∧ ∀ q ∈ tb_m71.2.2.2.2.2.2.2.2.2.2.1, ai_lok tb_MT tb_m71.1.cls q := ⟨⟨⟨tv_i71, tv_fl_RX5, tv_fp_RX5, tv_ci_RX5, tv_cl_RX5⟩, by decide +kernel⟩, tv_ml_RX5⟩
theorem tv_m72 : (ai_mok tb_m72 ∧ plainName tb_m72.1.cls = true) ∧ ∀ q ∈ tb_m72.2.2.2.2.2.2.2.2.2.2.1, ai_lok tb_MT tb_m72.1.cls q := ⟨⟨⟨tv_i72, tv_fl_RX5, tv_fp_RX5, tv_ci_RX5, tv_cl_RX5⟩, by decide +kernel⟩, tv_ml_RX5⟩
theorem tv_m73 : (ai_mok tb_m73 ∧ plainName tb_m73.1.cls = true) ∧ ∀ q ∈ tb_m73.2.2.2.2.2.2.2.2.2.2.1, ai_lok tb_MT tb_m73.1.cls q := ⟨⟨⟨tv_i73, tv_fl_RX5, tv_fp_RX5, tv_ci_RX5, tv_cl_RX5⟩, by decide +kernel⟩, tv_ml_RX5⟩
theorem tv_m74 : (ai_mok tb_m74 ∧ plainName tb_m74.1.cls = true) ∧ ∀ q ∈ tb_m74.2.2.2.2.2.2.2.2.2.2.1, ai_lok tb_MT tb_m74.1.cls q := ⟨⟨⟨tv_i74, tv_fl_RX5, tv_fp_RX5, tv_ci_RX5, tv_cl_RX5⟩, by decide +kernel⟩, tv_ml_RX5⟩
theorem tv_m75 : (ai_mok tb_m75 ∧ plainName tb_m75.1.cls = true) ∧ ∀ q ∈ tb_m75.2.2.2.2.2.2.2.2.2.2.1, ai_lok tb_MT tb_m75.1.cls q := ⟨⟨⟨tv_i75, tv_fl_RX5, tv_fp_RX5, tv_ci_RX5, tv_cl_RX5⟩, by decide +kernel⟩, tv_ml_RX5⟩
theorem tv_m76 : (ai_mok tb_m76 ∧ plainName tb_m76.1.cls = true) ∧ ∀ q ∈ tb_m76.2.2.2.2.2.2.2.2.2.2.1, ai_lok tb_MT tb_m76.1.cls q := ⟨⟨⟨tv_i76, tv_fl_RX5, tv_fp_RX5, tv_ci_RX5, tv_cl_RX5⟩, by decide +kernel⟩, tv_ml_RX5⟩
theorem tv_m77 : (ai_mok tb_m77 ∧ plainName tb_m77.1.cls = true) ∧ ∀ q ∈ tb_m77.2.2.2.2.2.2.2.2.2.2.1, ai_lok tb_MT tb_m77.1.cls q := ⟨⟨⟨tv_i77, tv_fl_RX5, tv_fp_RX5, tv_ci_RX5, tv_cl_RX5⟩, by decide +kernel⟩, tv_ml_RX5⟩
theorem tv_m78 : (ai_mok tb_m78 ∧ plainName tb_m78.1.cls = true) ∧ ∀ q ∈ tb_m78.2.2.2.2.2.2.2.2.2.2.1, ai_lok tb_MT tb_m78.1.cls q := ⟨⟨⟨tv_i78, tv_fl_RX5, tv_fp_RX5, tv_ci_RX5, tv_cl_RX5⟩, by decide +kernel⟩, tv_ml_RX5⟩
theorem tv_m79 : (ai_mok tb_m79 ∧ plainName tb_m79.1.cls = true) ∧ ∀ q ∈ tb_m79.2.2.2.2.2.2.2.2.2.2.1, ai_lok tb_MT tb_m79.1.cls q := ⟨⟨⟨tv_i79, tv_fl_RX5, tv_fp_RX5, tv_ci_RX5, tv_cl_RX5⟩, by decide +kernel⟩, tv_ml_RX5⟩
theorem tv_m80 : (ai_mok tb_m80 ∧ plainName tb_m80.1.cls = true) ∧ ∀ q ∈ tb_m80.2.2.2.2.2.2.2.2.2.2.1, ai_lok tb_MT tb_m80.1.cls q := ⟨⟨⟨tv_i80, tv_fl_RX5, tv_fp_RX5, tv_ci_RX5, tv_cl_RX5⟩, by decide +kernel⟩, tv_ml_RX5⟩
theorem tv_m81 : (ai_mok tb_m81 ∧ plainName tb_m81.1.cls = true) ∧ ∀ q ∈ tb_m81.2.2.2.2.2.2.2.2.2.2.1, ai_lok tb_MT tb_m81.1.cls q := ⟨⟨⟨tv_i81, tv_fl_RX5, tv_fp_RX5, tv_ci_RX5, tv_cl_RX5⟩, by decide +kernel⟩, tv_ml_RX5⟩
theorem tv_m82 : (ai_mok tb_m82 ∧ plainName tb_m82.1.cls = true) ∧ ∀ q ∈ tb_m82.2.2.2.2.2.2.2.2.2.2.1, ai_lok tb_MT tb_m82.1.cls q := ⟨⟨⟨tv_i82, tv_fl_RX5, tv_fp_RX5, tv_ci_RX5, tv_cl_RX5⟩, by decide +kernel⟩, tv_ml_RX5⟩
theorem tv_m83 : (ai_mok tb_m83 ∧ plainName tb_m83.1.cls = true) ∧ ∀ q ∈ tb_m83.2.2.2.2.2.2.2.2.2.2.1, ai_lok tb_MT tb_m83.1.cls q := ⟨⟨⟨tv_i83, tv_fl_RX5, tv_fp_RX5, tv_ci_RX5, tv_cl_RX5⟩, by decide +kernel⟩, tv_ml_RX5⟩
theorem tv_m84 : (ai_mok tb_m84 ∧ plainName tb_m84.1.cls = true) ∧ ∀ q ∈ tb_m84.2.2.2.2.2.2.2.2.2.2.1, ai_lok tb_MT tb_m84.1.cls q := ⟨⟨⟨tv_i84, tv_fl_RX5, tv_fp_RX5, tv_ci_RX5, tv_cl_RX5⟩, by decide +kernel⟩, tv_ml_RX5⟩
theorem tv_m85 : (ai_mok tb_m85 ∧ plainName tb_m85.1.cls = true) ∧ ∀ q ∈ tb_m85.2.2.2.2.2.2.2.2.2.2.1, ai_lok tb_MT tb_m85.1.cls q := ⟨⟨⟨tv_i85, tv_fl_RX5, tv_fp_RX5, tv_ci_RX5, tv_cl_RX5⟩, by decide +kernel⟩, tv_ml_RX5⟩
theorem tv_m86 : (ai_mok tb_m86 ∧ plainName tb_m86.1.cls = true) ∧ ∀ q ∈ tb_m86.2.2.2.2.2.2.2.2.2.2.1, ai_lok tb_MT tb_m86.1.cls q := ⟨⟨⟨tv_i86, tv_fl_RX5, tv_fp_RX5, tv_ci_RX5, tv_cl_RX5⟩, by decide +kernel⟩, tv_ml_RX5⟩
theorem tv_m87 : (ai_mok tb_m87 ∧ plainName tb_m87.1.cls = true) ∧ ∀ q ∈ tb_m87.2.2.2.2.2.2.2.2.2.2.1, ai_lok tb_MT tb_m87.1.cls q := ⟨⟨⟨tv_i87, tv_fl_RX5, tv_fp_RX5, tv_ci_RX5, tv_cl_RX5⟩, by decide +kernel⟩, tv_ml_RX5⟩
theorem tv_m88 : (ai_mok tb_m88 ∧ plainName tb_m88.1.cls = true) ∧ ∀ q ∈ tb_m88.2.2.2.2.2.2.2.2.2.2.1, ai_lok tb_MT tb_m88.1.cls q := ⟨⟨⟨tv_i88, tv_fl_RX5, tv_fp_RX5, tv_ci_RX5, tv_cl_RX5⟩, by decide +kernel⟩, tv_ml_RX5⟩
theorem tv_m89 : (ai_mok tb_m89 ∧ plainName tb_m89.1.cls = true) ∧ ∀ q ∈ tb_m89.2.2.2.2.2.2.2.2.2.2.1, ai_lok tb_MT tb_m89.1.cls q := ⟨⟨⟨tv_i89, tv_fl_RX5, tv_fp_RX5, tv_ci_RX5, tv_cl_RX5⟩, by decide +kernel⟩, tv_ml_RX5⟩
theorem tv_m90 : (ai_mok tb_m90 ∧ plainName tb_m90.1.cls = true) ∧ ∀ q ∈ tb_m90.2.2.2.2.2.2.2.2.2.2.1, ai_lok tb_MT tb_m90.1.cls q := ⟨⟨⟨tv_i90, tv_fl_RX5, tv_fp_RX5, tv_ci_RX5, tv_cl_RX5⟩, by decide +kernel⟩, tv_ml_RX5⟩
theorem tv_m91 : (ai_mok tb_m91 ∧ plainName tb_m91.1.cls = true) ∧ ∀ q ∈ tb_m91.2.2.2.2.2.2.2.2.2.2.1, ai_lok tb_MT tb_m91.1.cls q := ⟨⟨⟨tv_i91, tv_fl_RX5, tv_fp_RX5, tv_ci_RX5, tv_cl_RX5⟩, by decide +kernel⟩, tv_ml_RX5⟩
theorem tv_m92 : (ai_mok tb_m92 ∧ plainName tb_m92.1.cls = true) ∧ ∀ q ∈ tb_m92.2.2.2.2.2.2.2.2.2.2.1, ai_lok tb_MT tb_m92.1.cls q := ⟨⟨⟨tv_i92, tv_fl_RX5, tv_fp_RX5, tv_ci_RX5, tv_cl_RX5⟩, by decide +kernel⟩, tv_ml_RX5⟩
theorem tv_m93 : (ai_mok tb_m93 ∧ plainName tb_m93.1.cls = true) ∧ ∀ q ∈ tb_m93.2.2.2.2.2.2.2.2.2.2.1, ai_lok tb_MT tb_m93.1.cls q := ⟨⟨⟨tv_i93, tv_fl_RX5, tv_fp_RX5, tv_ci_RX5, tv_cl_RX5⟩, by decide +kernel⟩, tv_ml_RX5⟩
theorem tv_m94 : (ai_mok tb_m94 ∧ plainName tb_m94.1.cls = true) ∧ ∀ q ∈ tb_m94.2.2.2.2.2.2.2.2.2.2.1, ai_lok tb_MT tb_m94.1.cls q := ⟨⟨⟨tv_i94, tv_fl_RX5, tv_fp_RX5, tv_ci_RX5, tv_cl_RX5⟩, by decide +kernel⟩, tv_ml_RX5⟩
theorem tv_m95 : (ai_mok tb_m95 ∧ plainName tb_m95.1.cls = true) ∧ ∀ q ∈ tb_m95.2.2.2.2.2.2.2.2.2.2.1, ai_lok tb_MT tb_m95.1.cls q := ⟨⟨⟨tv_i95, tv_fl_RX5, tv_fp_RX5, tv_ci_RX5, tv_cl_RX5⟩, by decide +kernel⟩, tv_ml_RX5⟩
theorem tv_m96 : (ai_mok tb_m96 ∧ plainName tb_m96.1.cls = true) ∧ ∀ q ∈ tb_m96.2.2.2.2.2.2.2.2.2.2.1, ai_lok tb_MT tb_m96.1.cls q := ⟨⟨⟨tv_i96, tv_fl_RX5, tv_fp_RX5, tv_ci_RX5, tv_cl_RX5⟩, by decide +kernel⟩, tv_ml_RX5⟩
theorem tv_m97 : (ai_mok tb_m97 ∧ plainName tb_m97.1.cls = true) ∧ ∀ q ∈ tb_m97.2.2.2.2.2.2.2.2.2.2.1, ai_lok tb_MT tb_m97.1.cls q := ⟨⟨⟨tv_i97, tv_fl_RX5, tv_fp_RX5, tv_ci_RX5, tv_cl_RX5⟩, by decide +kernel⟩, tv_ml_RX5⟩
theorem tv_m98 : (ai_mok tb_m98 ∧ plainName tb_m98.1.cls = true) ∧ ∀ q ∈ tb_m98.2.2.2.2.2.2.2.2.2.2.1, ai_lok tb_MT tb_m98.1.cls q := ⟨⟨⟨tv_i98, tv_fl_RX6, tv_fp_RX6, tv_ci_RX6, tv_cl_RX6⟩, by decide +kernel⟩, tv_ml_RX6⟩
theorem tv_m99 : (ai_mok tb_m99 ∧ plainName tb_m99.1.cls = true) ∧ ∀ q ∈ tb_m99.2.2.2.2.2.2.2.2.2.2.1, ai_lok tb_MT tb_m99.1.cls q := ⟨⟨⟨tv_i99, tv_fl_RX6, tv_fp_RX6, tv_ci_RX6, tv_cl_RX6⟩, by decide +kernel⟩, tv_ml_RX6⟩
theorem tv_m100 : (ai_mok tb_m100 ∧ plainName tb_m100.1.cls = true) ∧ ∀ q ∈ tb_m100.2.2.2.2.2.2.2.2.2.2.1, ai_lok tb_MT tb_m100.1.cls q := ⟨⟨⟨tv_i100, tv_fl_RX6, tv_fp_RX6, tv_ci_RX6, tv_cl_RX6⟩, by decide +kernel⟩, tv_ml_RX6⟩
theorem tv_m101 : (ai_mok tb_m101 ∧ plainName tb_m101.1.cls = true) ∧ ∀ q ∈ tb_m101.2.2.2.2.2.2.2.2.2.2.1, ai_lok tb_MT tb_m101.1.cls q := ⟨⟨⟨tv_i101, tv_fl_RX6, tv_fp_RX6, tv_ci_RX6, tv_cl_RX6⟩, by decide +kernel⟩, tv_ml_RX6⟩
theorem tv_m102 : (ai_mok tb_m102 ∧ plainName tb_m102.1.cls = true) ∧ ∀ q ∈ tb_m102.2.2.2.2.2.2.2.2.2.2.1, ai_lok tb_MT tb_m102.1.cls q := ⟨⟨⟨tv_i102, tv_fl_RX6, tv_fp_RX6, tv_ci_RX6, tv_cl_RX6⟩, by decide +kernel⟩, tv_ml_RX6⟩
theorem tv_m103 : (ai_mok tb_m103 ∧ plainName tb_m103.1.cls = true) ∧ ∀ q ∈ tb_m103.2.2.2.2.2.2.2.2.2.2.1, ai_lok tb_MT tb_m103.1.cls q := ⟨⟨⟨tv_i103, tv_fl_RX6, tv_fp_RX6, tv_ci_RX6, tv_cl_RX6⟩, by decide +kernel⟩, tv_ml_RX6⟩
theorem tv_m104 : (ai_mok tb_m104 ∧ plainName tb_m104.1.cls = true) ∧ ∀ q ∈ tb_m104.2.2.2.2.2.2.2.2.2.2.1, ai_lok tb_MT tb_m104.1.cls q := ⟨⟨⟨tv_i104, tv_fl_RX6, tv_fp_RX6, tv_ci_RX6, tv_cl_RX6⟩, by decide +kernel⟩, tv_ml_RX6⟩
theorem tv_m105 : (ai_mok tb_m105 ∧ plainName tb_m105.1.cls = true) ∧ ∀ q ∈ tb_m105.2.2.2.2.2.2.2.2.2.2.1, ai_lok tb_MT tb_m105.1.cls q := ⟨⟨⟨tv_i105, tv_fl_RX6, tv_fp_RX6, tv_ci_RX6, tv_cl_RX6⟩, by decide +kernel⟩, tv_ml_RX6⟩
theorem tv_m106 : (ai_mok tb_m106 ∧ plainName tb_m106.1.cls = true) ∧ ∀ q ∈ tb_m106.2.2.2.2.2.2.2.2.2.2.1, ai_lok tb_MT tb_m106.1.cls q := ⟨⟨⟨tv_i106, tv_fl_RX6, tv_fp_RX6, tv_ci_RX6, tv_cl_RX6⟩, by decide +kernel⟩, tv_ml_RX6⟩
theorem tv_m107 : (ai_mok tb_m107 ∧ plainName tb_m107.1.cls = true) ∧ ∀ q ∈ tb_m107.2.2.2.2.2.2.2.2.2.2.1, ai_lok tb_MT tb_m107.1.cls q := ⟨⟨⟨tv_i107, tv_fl_RX6, tv_fp_RX6, tv_ci_RX6, tv_cl_RX6⟩, by decide +kernel⟩, tv_ml_RX6⟩
theorem tv_m108 : (ai_mok tb_m108 ∧ plainName tb_m108.1.cls = true) ∧ ∀ q ∈ tb_m108.2.2.2.2.2.2.2.2.2.2.1, ai_lok tb_MT tb_m108.1.cls q := ⟨⟨⟨tv_i108, tv_fl_RX6, tv_fp_RX6, tv_ci_RX6, tv_cl_RX6⟩, by decide +kernel⟩, tv_ml_RX6⟩
theorem tv_m109 : (ai_mok tb_m109 ∧ plainName tb_m109.1.cls = true) ∧ ∀ q ∈ tb_m109.2.2.2.2.2.2.2.2.2.2.1, ai_lok tb_MT tb_m109.1.cls q := ⟨⟨⟨tv_i109, tv_fl_RX6, tv_fp_RX6, tv_ci_RX6, tv_cl_RX6⟩, by decide +kernel⟩, tv_ml_RX6⟩
theorem tv_m110 : (ai_mok tb_m110 ∧ plainName tb_m110.1.cls = true) ∧ ∀ q ∈ tb_m110.2.2.2.2.2.2.2.2.2.2.1, ai_lok tb_MT tb_m110.1.cls q := ⟨⟨⟨tv_i110, tv_fl_RX6, tv_fp_RX6, tv_ci_RX6, tv_cl_RX6⟩, by decide +kernel⟩, tv_ml_RX6⟩
theorem tv_m111 : (ai_mok tb_m111 ∧ plainName tb_m111.1.cls = true) ∧ ∀ q ∈ tb_m111.2.2.2.2.2.2.2.2.2.2.1, ai_lok tb_MT tb_m111.1.cls q := ⟨⟨⟨tv_i111, tv_fl_RX6, tv_fp_RX6, tv_ci_RX6, tv_cl_RX6⟩, by decide +kernel⟩, tv_ml_RX6⟩
theorem tv_m112 : (ai_mok tb_m112 ∧ plainName tb_m112.1.cls = true) ∧ ∀ q ∈ tb_m112.2.2.2.2.2.2.2.2.2.2.1, ai_lok tb_MT tb_m112.1.cls q := ⟨⟨⟨tv_i112, tv_fl_RX6, tv_fp_RX6, tv_ci_RX6, tv_cl_RX6⟩, by decide +kernel⟩, tv_ml_RX6⟩
theorem tv_m113 : (ai_mok tb_m113 ∧ plainName tb_m113.1.cls = true) ∧ ∀ q ∈ tb_m113.2.2.2.2.2.2.2.2.2.2.1, ai_lok tb_MT tb_m113.1.cls q := ⟨⟨⟨tv_i113, tv_fl_RX6, tv_fp_RX6, tv_ci_RX6, tv_cl_RX6⟩, by decide +kernel⟩, tv_ml_RX6⟩
theorem tv_m114 : (ai_mok tb_m114 ∧ plainName tb_m114.1.cls = true) ∧ ∀ q ∈ tb_m114.2.2.2.2.2.2.2.2.2.2.1, ai_lok tb_MT tb_m114.1.cls q := ⟨⟨⟨tv_i114, tv_fl_RX6, tv_fp_RX6, tv_ci_RX6, tv_cl_RX6⟩, by decide +kernel⟩, tv_ml_RX6⟩
theorem tv_m115 : (ai_mok tb_m115 ∧ plainName tb_m115.1.cls = true) ∧ ∀ q ∈ tb_m115.2.2.2.2.2.2.2.2.2.2.1, ai_lok tb_MT tb_m115.1.cls q := ⟨⟨⟨tv_i115, tv_fl_RX6, tv_fp_RX6, tv_ci_RX6, tv_cl_RX6⟩, by decide +kernel⟩, tv_ml_RX6⟩
theorem tv_m116 : (ai_mok tb_m116 ∧ plainName tb_m116.1.cls = true) ∧ ∀ q ∈ tb_m116.2.2.2.2.2.2.2.2.2.2.1, ai_lok tb_MT tb_m116.1.cls q := ⟨⟨⟨tv_i116, tv_fl_RX6, tv_fp_RX6, tv_ci_RX6, tv_cl_RX6⟩, by decide +kernel⟩, tv_ml_RX6⟩
theorem tv_m117 : (ai_mok tb_m117 ∧ plainName tb_m117.1.cls = true) ∧ ∀ q ∈ tb_m117.2.2.2.2.2.2.2.2.2.2.1, ai_lok tb_MT tb_m117.1.cls q := ⟨⟨⟨tv_i117, tv_fl_RX6, tv_fp_RX6, tv_ci_RX6, tv_cl_RX6⟩, by decide +kernel⟩, tv_ml_RX6⟩
theorem tv_m118 : (ai_mok tb_m118 ∧ plainName tb_m118.1.cls = true) ∧ ∀ q ∈ tb_m118.2.2.2.2.2.2.2.2.2.2.1, ai_lok tb_MT tb_m118.1.cls q := ⟨⟨⟨tv_i118, tv_fl_RX6, tv_fp_RX6, tv_ci_RX6, tv_cl_RX6⟩, by decide +kernel⟩, tv_ml_RX6⟩
theorem tv_m119 : (ai_mok tb_m119 ∧ plainName tb_m119.1.cls = true) ∧ ∀ q ∈ tb_m119.2.2.2.2.2.2.2.2.2.2.1, ai_lok tb_MT tb_m119.1.cls q := ⟨⟨⟨tv_i119, tv_fl_RX6, tv_fp_RX6, tv_ci_RX6, tv_cl_RX6⟩, by decide +kernel⟩, tv_ml_RX6⟩
theorem tv_m120 : (ai_mok tb_m120 ∧ plainName tb_m120.1.cls = true) ∧ ∀ q ∈ tb_m120.2.2.2.2.2.2.2.2.2.2.1, ai_lok tb_MT tb_m120.1.cls q := ⟨⟨⟨tv_i120, tv_fl_RX6, tv_fp_RX6, tv_ci_RX6, tv_cl_RX6⟩, by decide +kernel⟩, tv_ml_RX6⟩
theorem tv_m121 : (ai_mok tb_m121 ∧ plainName tb_m121.1.cls = true) ∧ ∀ q ∈ tb_m121.2.2.2.2.2.2.2.2.2.2.1, ai_lok tb_MT tb_m121.1.cls q := ⟨⟨⟨tv_i121, tv_fl_RX6, tv_fp_RX6, tv_ci_RX6, tv_cl_RX6⟩, by decide +kernel⟩, tv_ml_RX6⟩
theorem tv_m122 : (ai_mok tb_m122 ∧ plainName tb_m122.1.cls = true) ∧ ∀ q ∈ tb_m122.2.2.2.2.2.2.2.2.2.2.1, ai_lok tb_MT tb_m122.1.cls q := ⟨⟨⟨tv_i122, tv_fl_RX6, tv_fp_RX6, tv_ci_RX6, tv_cl_RX6⟩, by decide +kernel⟩, tv_ml_RX6⟩
theorem tv_m123 : (ai_mok tb_m123 ∧ plainName tb_m123.1.cls = true) ∧ ∀ q ∈ tb_m123.2.2.2.2.2.2.2.2.2.2.1, ai_lok tb_MT tb_m123.1.cls q := ⟨⟨⟨tv_i123, tv_fl_RX6, tv_fp_RX6, tv_ci_RX6, tv_cl_RX6⟩, by decide +kernel⟩, tv_ml_RX6⟩
theorem tv_m124 : (ai_mok tb_m124 ∧ plainName tb_m124.1.cls = true) ∧ ∀ q ∈ tb_m124.2.2.2.2.2.2.2.2.2.2.1, ai_lok tb_MT tb_m124.1.cls q := ⟨⟨⟨tv_i124, tv_fl_RX6, tv_fp_RX6, tv_ci_RX6, tv_cl_RX6⟩, by decide +kernel⟩, tv_ml_RX6⟩
theorem tv_m125 : (ai_mok tb_m125 ∧ plainName tb_m125.1.cls = true) ∧ ∀ q ∈ tb_m125.2.2.2.2.2.2.2.2.2.2.1, ai_lok tb_MT tb_m125.1.cls q := ⟨⟨⟨tv_i125, tv_fl_RX6, tv_fp_RX6, tv_ci_RX6, tv_cl_RX6⟩, by decide +kernel⟩, tv_ml_RX6⟩
theorem tv_m126 : (ai_mok tb_m126 ∧ plainName tb_m126.1.cls = true) ∧ ∀ q ∈ tb_m126.2.2.2.2.2.2.2.2.2.2.1, ai_lok tb_MT tb_m126.1.cls q := ⟨⟨⟨tv_i126, tv_fl_RX6, tv_fp_RX6, tv_ci_RX6, tv_cl_RX6⟩, by decide +kernel⟩, tv_ml_RX6⟩
theorem tv_m127 : (ai_mok tb_m127 ∧ plainName tb_m127.1.cls = true) ∧ ∀ q ∈ tb_m127.2.2.2.2.2.2.2.2.2.2.1, ai_lok tb_MT tb_m127.1.cls q := ⟨⟨⟨tv_i127, tv_fl_RX6, tv_fp_RX6, tv_ci_RX6, tv_cl_RX6⟩, by decide +kernel⟩, tv_ml_RX6⟩
theorem tv_m128 : (ai_mok tb_m128 ∧ plainName tb_m128.1.cls = true) ∧ ∀ q ∈ tb_m128.2.2.2.2.2.2.2.2.2.2.1, ai_lok tb_MT tb_m128.1.cls q := ⟨⟨⟨tv_i128, tv_fl_RX6, tv_fp_RX6, tv_ci_RX6, tv_cl_RX6⟩, by decide +kernel⟩, tv_ml_RX6⟩
theorem tv_m129 : (ai_mok tb_m129 ∧ plainName tb_m129.1.cls = true) ∧ ∀ q ∈ tb_m129.2.2.2.2.2.2.2.2.2.2.1, ai_lok tb_MT tb_m129.1.cls q := ⟨⟨⟨tv_i129, tv_fl_RX6, tv_fp_RX6, tv_ci_RX6, tv_cl_RX6⟩, by decide +kernel⟩, tv_ml_RX6⟩
theorem tv_m130 : (ai_mok tb_m130 ∧ plainName tb_m130.1.cls = true) ∧ ∀ q ∈ tb_m130.2.2.2.2.2.2.2.2.2.2.1, ai_lok tb_MT tb_m130.1.cls q := ⟨⟨⟨tv_i130, tv_fl_RX6, tv_fp_RX6, tv_ci_RX6, tv_cl_RX6⟩, by decide +kernel⟩, tv_ml_RX6⟩
theorem tv_m131 : (ai_mok tb_m131 ∧ plainName tb_m131.1.cls = true) ∧ ∀ q ∈ tb_m131.2.2.2.2.2.2.2.2.2.2.1, ai_lok tb_MT tb_m131.1.cls q := ⟨⟨⟨tv_i131, tv_fl_RX6, tv_fp_RX6, tv_ci_RX6, tv_cl_RX6⟩, by decide +kernel⟩, tv_ml_RX6⟩
theorem tv_m132 : (ai_mok tb_m132 ∧ plainName tb_m132.1.cls = true) ∧ ∀ q ∈ tb_m132.2.2.2.2.2.2.2.2.2.2.1, ai_lok tb_MT tb_m132.1.cls q := ⟨⟨⟨tv_i132, tv_fl_RX6, tv_fp_RX6, tv_ci_RX6, tv_cl_RX6⟩, by decide +kernel⟩, tv_ml_RX6⟩
theorem tv_m133 : (ai_mok tb_m133 ∧ plainName tb_m133.1.cls = true) ∧ ∀ q ∈ tb_m133.2.2.2.2.2.2.2.2.2.2.1, ai_lok tb_MT tb_m133.1.cls q := ⟨⟨⟨tv_i133, tv_fl_RX6, tv_fp_RX6, tv_ci_RX6, tv_cl_RX6⟩, by decide +kernel⟩, tv_ml_RX6⟩
theorem tv_m134 : (ai_mok tb_m134 ∧ plainName tb_m134.1.cls = true) ∧ ∀ q ∈ tb_m134.2.2.2.2.2.2.2.2.2.2.1, ai_lok tb_MT tb_m134.1.cls q := ⟨⟨⟨tv_i134, tv_fl_RX6, tv_fp_RX6, tv_ci_RX6, tv_cl_RX6⟩, by decide +kernel⟩, tv_ml_RX6⟩
theorem tv_m135 : (ai_mok tb_m135 ∧ plainName tb_m135.1.cls = true) ∧ ∀ q ∈ tb_m135.2.2.2.2.2.2.2.2.2.2.1, ai_lok tb_MT tb_m135.1.cls q := ⟨⟨⟨tv_i135, tv_fl_RX6, tv_fp_RX6, tv_ci_RX6, tv_cl_RX6⟩, by decide +kernel⟩, tv_ml_RX6⟩
theorem tv_m136 : (ai_mok tb_m136 ∧ plainName tb_m136.1.cls = true) ∧ ∀ q ∈ tb_m136.2.2.2.2.2.2.2.2.2.2.1, ai_lok tb_MT tb_m136.1.cls q := ⟨⟨⟨tv_i136, tv_fl_RX6, tv_fp_RX6, tv_ci_RX6, tv_cl_RX6⟩, by decide +kernel⟩, tv_ml_RX6⟩
theorem tv_m137 : (ai_mok tb_m137 ∧ plainName tb_m137.1.cls = true) ∧ ∀ q ∈ tb_m137.2.2.2.2.2.2.2.2.2.2.1, ai_lok tb_MT tb_m137.1.cls q := ⟨⟨⟨tv_i137, tv_fl_RX6, tv_fp_RX6, tv_ci_RX6, tv_cl_RX6⟩, by decide +kernel⟩, tv_ml_RX6⟩
theorem tv_m138 : (ai_mok tb_m138 ∧ plainName tb_m138.1.cls = true) ∧ ∀ q ∈ tb_m138.2.2.2.2.2.2.2.2.2.2.1, ai_lok tb_MT tb_m138.1.cls q := ⟨⟨⟨tv_i138, tv_fl_RX6, tv_fp_RX6, tv_ci_RX6, tv_cl_RX6⟩, by decide +kernel⟩, tv_ml_RX6⟩
theorem tv_m139 : (ai_mok tb_m139 ∧ plainName tb_m139.1.cls = true) ∧ ∀ q ∈ tb_m139.2.2.2.2.2.2.2.2.2.2.1, ai_lok tb_MT tb_m139.1.cls q := ⟨⟨⟨tv_i139, tv_fl_RX6, tv_fp_RX6, tv_ci_RX6, tv_cl_RX6⟩, by decide +kernel⟩, tv_ml_RX6⟩
theorem tv_m140 : (ai_mok tb_m140 ∧ plainName tb_m140.1.cls = true) ∧ ∀ q ∈ tb_m140.2.2.2.2.2.2.2.2.2.2.1, ai_lok tb_MT tb_m140.1.cls q := ⟨⟨⟨tv_i140, tv_fl_RX6, tv_fp_RX6, tv_ci_RX6, tv_cl_RX6⟩, by decide +kernel⟩, tv_ml_RX6⟩
theorem tv_m141 : (ai_mok tb_m141 ∧ plainName tb_m141.1.cls = true) ∧ ∀ q ∈ tb_m141.2.2.2.2.2.2.2.2.2.2.1, ai_lok tb_MT tb_m141.1.cls q := ⟨⟨⟨tv_i141, tv_fl_RX6, tv_fp_RX6, tv_ci_RX6, tv_cl_RX6⟩, by decide +kernel⟩, tv_ml_RX6⟩
theorem tv_m142 : (ai_mok tb_m142 ∧ plainName tb_m142.1.cls = true) ∧ ∀ q ∈ tb_m142.2.2.2.2.2.2.2.2.2.2.1, ai_lok tb_MT tb_m142.1.cls q := ⟨⟨⟨tv_i142, tv_fl_RX6, tv_fp_RX6, tv_ci_RX6, tv_cl_RX6⟩, by decide +kernel⟩, tv_ml_RX6⟩
theorem tv_m143 : (ai_mok tb_m143 ∧ plainName tb_m143.1.cls = true) ∧ ∀ q ∈ tb_m143.2.2.2.2.2.2.2.2.2.2.1, ai_lok tb_MT tb_m143.1.cls q := ⟨⟨⟨tv_i143, tv_fl_RX6, tv_fp_RX6, tv_ci_RX6, tv_cl_RX6⟩, by decide +kernel⟩, tv_ml_RX6⟩
theorem tv_m144 : (ai_mok tb_m144 ∧ plainName tb_m144.1.cls = true) ∧ ∀ q ∈ tb_m144.2.2.2.2.2.2.2.2.2.2.1, ai_lok tb_MT tb_m144.1.cls q := ⟨⟨⟨tv_i144, tv_fl_RX6, tv_fp_RX6, tv_ci_RX6, tv_cl_RX6⟩, by decide +kernel⟩, tv_ml_RX6⟩
theorem tv_m145 : (ai_mok tb_m145 ∧ plainName tb_m145.1.cls = true) ∧ ∀ q ∈ tb_m145.2.2.2.2.2.2.2.2.2.2.1, ai_lok tb_MT tb_m145.1.cls q := ⟨⟨⟨tv_i145, tv_fl_RX6, tv_fp_RX6, tv_ci_RX6, tv_cl_RX6⟩, by decide +kernel⟩, tv_ml_RX6⟩
theorem tv_m146 : (ai_mok tb_m146 ∧ plainName tb_m146.1.cls = true) ∧ ∀ q ∈ tb_m146.2.2.2.2.2.2.2.2.2.2.1, ai_lok tb_MT tb_m146.1.cls q := ⟨⟨⟨tv_i146, tv_fl_RX6, tv_fp_RX6, tv_ci_RX6, tv_cl_RX6⟩, by decide +kernel⟩, tv_ml_RX6⟩
theorem tv_m147 : (ai_mok tb_m147 ∧ plainName tb_m147.1.cls = true) ∧ ∀ q ∈ tb_m147.2.2.2.2.2.2.2.2.2.2.1, ai_lok tb_MT tb_m147.1.cls q := ⟨⟨⟨tv_i147, tv_fl_RX6, tv_fp_RX6, tv_ci_RX6, tv_cl_RX6⟩, by decide +kernel⟩, tv_ml_RX6⟩
theorem tv_m148 : (ai_mok tb_m148 ∧ plainName tb_m148.1.cls = true) ∧ ∀ q ∈ tb_m148.2.2.2.2.2.2.2.2.2.2.1, ai_lok tb_MT tb_m148.1.cls q := ⟨⟨⟨tv_i148, tv_fl_RX6, tv_fp_RX6, tv_ci_RX6, tv_cl_RX6⟩, by decide +kernel⟩, tv_ml_RX6⟩
theorem tv_m149 : (ai_mok tb_m149 ∧ plainName tb_m149.1.cls = true) ∧ ∀ q ∈ tb_m149.2.2.2.2.2.2.2.2.2.2.1, ai_lok tb_MT tb_m149.1.cls q := ⟨⟨⟨tv_i149, tv_fl_RX6, tv_fp_RX6, tv_ci_RX6, tv_cl_RX6⟩, by decide +kernel⟩, tv_ml_RX6⟩
theorem tv_m150 : (ai_mok tb_m150 ∧ plainName tb_m150.1.cls = true) ∧ ∀ q ∈ tb_m150.2.2.2.2.2.2.2.2.2.2.1, ai_lok tb_MT tb_m150.1.cls q := ⟨⟨⟨tv_i150, tv_fl_RX6, tv_fp_RX6, tv_ci_RX6, tv_cl_RX6⟩, by decide +kernel⟩, tv_ml_RX6⟩
theorem tv_m151 : (ai_mok tb_m151 ∧ plainName tb_m151.1.cls = true) ∧ ∀ q ∈ tb_m151.2.2.2.2.2.2.2.2.2.2.1, ai_lok tb_MT tb_m151.1.cls q := ⟨⟨⟨tv_i151, tv_fl_RX6, tv_fp_RX6, tv_ci_RX6, tv_cl_RX6⟩, by decide +kernel⟩, tv_ml_RX6⟩
theorem tv_m152 : (ai_mok tb_m152 ∧ plainName tb_m152.1.cls = true) ∧ ∀ q ∈ tb_m152.2.2.2.2.2.2.2.2.2.2.1, ai_lok tb_MT tb_m152.1.cls q := ⟨⟨⟨tv_i152, tv_fl_RX6, tv_fp_RX6, tv_ci_RX6, tv_cl_RX6⟩, by decide +kernel⟩, tv_ml_RX6⟩
theorem tv_m153 : (ai_mok tb_m153 ∧ plainName tb_m153.1.cls = true) ∧ ∀ q ∈ tb_m153.2.2.2.2.2.2.2.2.2.2.1, ai_lok tb_MT tb_m153.1.cls q := ⟨⟨⟨tv_i153, tv_fl_RX6, tv_fp_RX6, tv_ci_RX6, tv_cl_RX6⟩, by decide +kernel⟩, tv_ml_RX6⟩
theorem tv_m154 : (ai_mok tb_m154 ∧ plainName tb_m154.1.cls = true) ∧ ∀ q ∈ tb_m154.2.2.2.2.2.2.2.2.2.2.1, ai_lok tb_MT tb_m154.1.cls q := ⟨⟨⟨tv_i154, tv_fl_RX6, tv_fp_RX6, tv_ci_RX6, tv_cl_RX6⟩, by decide +kernel⟩, tv_ml_RX6⟩
theorem tv_m155 : (ai_mok tb_m155 ∧ plainName tb_m155.1.cls = true) ∧ ∀ q ∈ tb_m155.2.2.2.2.2.2.2.2.2.2.1, ai_lok tb_MT tb_m155.1.cls q := ⟨⟨⟨tv_i155, tv_fl_RX6, tv_fp_RX6, tv_ci_RX6, tv_cl_RX6⟩, by decide +kernel⟩, tv_ml_RX6⟩
theorem tv_m156 : (ai_mok tb_m156 ∧ plainName tb_m156.1.cls = true) ∧ ∀ q ∈ tb_m156.2.2.2.2.2.2.2.2.2.2.1, ai_lok tb_MT tb_m156.1.cls q := ⟨⟨⟨tv_i156, tv_fl_RX6, tv_fp_RX6, tv_ci_RX6, tv_cl_RX6⟩, by decide +kernel⟩, tv_ml_RX6⟩
theorem tv_m157 : (ai_mok tb_m157 ∧ plainName tb_m157.1.cls = true) ∧ ∀ q ∈ tb_m157.2.2.2.2.2.2.2.2.2.2.1, ai_lok tb_MT tb_m157.1.cls q := ⟨⟨⟨tv_i157, tv_fl_RX6, tv_fp_RX6, tv_ci_RX6, tv_cl_RX6⟩, by decide +kernel⟩, tv_ml_RX6⟩
theorem tv_m158 : (ai_mok tb_m158 ∧ plainName tb_m158.1.cls = true) ∧ ∀ q ∈ tb_m158.2.2.2.2.2.2.2.2.2.2.1, ai_lok tb_MT tb_m158.1.cls q := ⟨⟨⟨tv_i158, tv_fl_RX6, tv_fp_RX6, tv_ci_RX6, tv_cl_RX6⟩, by decide +kernel⟩, tv_ml_RX6⟩
theorem tv_m159 : (ai_mok tb_m159 ∧ plainName tb_m159.1.cls = true) ∧ ∀ q ∈ tb_m159.2.2.2.2.2.2.2.2.2.2.1, ai_lok tb_MT tb_m159.1.cls q := ⟨⟨⟨tv_i159, tv_fl_RX6, tv_fp_RX6, tv_ci_RX6, tv_cl_RX6⟩, by decide +kernel⟩, tv_ml_RX6⟩
theorem tv_m160 : (ai_mok tb_m160 ∧ plainName tb_m160.1.cls = true) ∧ ∀ q ∈ tb_m160.2.2.2.2.2.2.2.2.2.2.1, ai_lok tb_MT tb_m160.1.cls q := ⟨⟨⟨tv_i160, tv_fl_RX6, tv_fp_RX6, tv_ci_RX6, tv_cl_RX6⟩, by decide +kernel⟩, tv_ml_RX6⟩
theorem tv_m161 : (ai_mok tb_m161 ∧ plainName tb_m161.1.cls = true) ∧ ∀ q ∈ tb_m161.2.2.2.2.2.2.2.2.2.2.1, ai_lok tb_MT tb_m161.1.cls q := ⟨⟨⟨tv_i161, tv_fl_RX6, tv_fp_RX6, tv_ci_RX6, tv_cl_RX6⟩, by decide +kernel⟩, tv_ml_RX6⟩
theorem tv_m162 : (ai_mok tb_m162 ∧ plainName tb_m162.1.cls = true) ∧ ∀ q ∈ tb_m162.2.2.2.2.2.2.2.2.2.2.1, ai_lok tb_MT tb_m162.1.cls q := ⟨⟨⟨tv_i162, tv_fl_RX6, tv_fp_RX6, tv_ci_RX6, tv_cl_RX6⟩, by decide +kernel⟩, tv_ml_RX6⟩
theorem tv_m163 : (ai_mok tb_m163 ∧ plainName tb_m163.1.cls = true) ∧ ∀ q ∈ tb_m163.2.2.2.2.2.2.2.2.2.2.1, ai_lok tb_MT tb_m163.1.cls q := ⟨⟨⟨tv_i163, tv_fl_RX6, tv_fp_RX6, tv_ci_RX6, tv_cl_RX6⟩, by decide +kernel⟩, tv_ml_RX6⟩
theorem tv_m164 : (ai_mok tb_m164 ∧ plainName tb_m164.1.cls = true) ∧ ∀ q ∈ tb_m164.2.2.2.2.2.2.2.2.2.2.1, ai_lok tb_MT tb_m164.1.cls q := ⟨⟨⟨tv_i164, tv_fl_RX6, tv_fp_RX6, tv_ci_RX6, tv_cl_RX6⟩, by decide +kernel⟩, tv_ml_RX6⟩
theorem tv_m165 : (ai_mok tb_m165 ∧ plainName tb_m165.1.cls = true) ∧ ∀ q ∈ tb_m165.2.2.2.2.2.2.2.2.2.2.1, ai_lok tb_MT tb_m165.1.cls q := ⟨⟨⟨tv_i165, tv_fl_RX6, tv_fp_RX6, tv_ci_RX6, tv_cl_RX6⟩, by decide +kernel⟩, tv_ml_RX6⟩
theorem tv_m166 : (ai_mok tb_m166 ∧ plainName tb_m166.1.cls = true) ∧ ∀ q ∈ tb_m166.2.2.2.2.2.2.2.2.2.2.1, ai_lok tb_MT tb_m166.1.cls q := ⟨⟨⟨tv_i166, tv_fl_RX6, tv_fp_RX6, tv_ci_RX6, tv_cl_RX6⟩, by decide +kernel⟩, tv_ml_RX6⟩
theorem tv_m167 : (ai_mok tb_m167 ∧ plainName tb_m167.1.cls = true) ∧ ∀ q ∈ tb_m167.2.2.2.2.2.2.2.2.2.2.1, ai_lok tb_MT tb_m167.1.cls q := ⟨⟨⟨tv_i167, tv_fl_RX6, tv_fp_RX6, tv_ci_RX6, tv_cl_RX6⟩, by decide +kernel⟩, tv_ml_RX6⟩
theorem tv_m168 : (ai_mok tb_m168 ∧ plainName tb_m168.1.cls = true) ∧ ∀ q ∈ tb_m168.2.2.2.2.2.2.2.2.2.2.1, ai_lok tb_MT tb_m168.1.cls q := ⟨⟨⟨tv_i168, tv_fl_RX6, tv_fp_RX6, tv_ci_RX6, tv_cl_RX6⟩, by decide +kernel⟩, tv_ml_RX6⟩
theorem tv_m169 : (ai_mok tb_m169 ∧ plainName tb_m169.1.cls = true) ∧ ∀ q ∈ tb_m169.2.2.2.2.2.2.2.2.2.2.1, ai_lok tb_MT tb_m169.1.cls q := ⟨⟨⟨tv_i169, tv_fl_RL, tv_fp_RL, tv_ci_RL, tv_cl_RL⟩, by decide +kernel⟩, tv_ml_RL⟩
theorem tv_m170 : (ai_mok tb_m170 ∧ plainName tb_m170.1.cls = true) ∧ ∀ q ∈ tb_m170.2.2.2.2.2.2.2.2.2.2.1, ai_lok tb_MT tb_m170.1.cls q := ⟨⟨⟨tv_i170, tv_fl_RJ6, tv_fp_RJ6, tv_ci_RJ6, tv_cl_RJ6⟩, by decide +kernel⟩, tv_ml_RJ6⟩
set_option maxRecDepth 100000 in
theorem tv_MT : ∀ M ∈ tb_MT, (ai_mok M ∧ plainName M.1.cls = true) ∧ ∀ q ∈ M.2.2.2.2.2.2.2.2.2.2.1, ai_lok tb_MT M.1.cls q := List.forall_mem_cons.mpr ⟨tv_m0, List.forall_mem_cons.mpr ⟨tv_m1, List.forall_mem_cons.mpr ⟨tv_m2, List.forall_mem_cons.mpr ⟨tv_m3, List.forall_mem_cons.mpr ⟨tv_m4, List.forall_mem_cons.mpr ⟨tv_m5, List.forall_mem_cons.mpr ⟨tv_m6, List.forall_mem_cons.mpr ⟨tv_m7, List.forall_mem_cons.mpr ⟨tv_m8, List.forall_mem_cons.mpr ⟨tv_m9, List.forall_mem_cons.mpr ⟨tv_m10, List.forall_mem_cons.mpr ⟨tv_m11, List.forall_mem_cons.mpr ⟨tv_m12, List.forall_mem_cons.mpr ⟨tv_m13, List.forall_mem_cons.mpr ⟨tv_m14, List.forall_mem_cons.mpr ⟨tv_m15, List.forall_mem_cons.mpr ⟨tv_m16, List.forall_mem_cons.mpr ⟨tv_m17, List.forall_mem_cons.mpr ⟨tv_m18, List.forall_mem_cons.mpr ⟨tv_m19, List.forall_mem_cons.mpr ⟨tv_m20, List.forall_mem_cons.mpr ⟨tv_m21, List.forall_mem_cons.mpr ⟨tv_m22, List.forall_mem_cons.mpr ⟨tv_m23, List.forall_mem_cons.mpr ⟨tv_m24, List.forall_mem_cons.mpr ⟨tv_m25, List.forall_mem_cons.mpr ⟨tv_m26, List.forall_mem_cons.mpr ⟨tv_m27, List.forall_mem_cons.mpr ⟨tv_m28, List.forall_mem_cons.mpr ⟨tv_m29, List.forall_mem_cons.mpr ⟨tv_m30, List.forall_mem_cons.mpr ⟨tv_m31, List.forall_mem_cons.mpr ⟨tv_m32, List.forall_mem_cons.mpr ⟨tv_m33, List.forall_mem_cons.mpr ⟨tv_m34, List.forall_mem_cons.mpr ⟨tv_m35, List.forall_mem_cons.mpr ⟨tv_m36, List.forall_mem_cons.mpr ⟨tv_m37, List.forall_mem_cons.mpr ⟨tv_m38, List.forall_mem_cons.mpr ⟨tv_m39, List.forall_mem_cons.mpr ⟨tv_m40, List.forall_mem_cons.mpr ⟨tv_m41, List.forall_mem_cons.mpr ⟨tv_m42, List.forall_mem_cons.mpr ⟨tv_m43, List.forall_mem_cons.mpr ⟨tv_m44, List.forall_mem_cons.mpr ⟨tv_m45, List.forall_mem_cons.mpr ⟨tv_m46, List.forall_mem_cons.mpr ⟨tv_m47, List.forall_mem_cons.mpr ⟨tv_m48, List.forall_mem_cons.mpr ⟨tv_m49, List.forall_mem_cons.mpr ⟨tv_m50, List.forall_mem_cons.mpr ⟨tv_m51, List.forall_mem_cons.mpr ⟨tv_m52, List.forall_mem_cons.mpr ⟨tv_m53, List.forall_mem_cons.mpr ⟨tv_m54, List.forall_mem_cons.mpr ⟨tv_m55, List.forall_mem_cons.mpr ⟨tv_m56, List.forall_mem_cons.mpr ⟨tv_m57, List.forall_mem_cons.mpr ⟨tv_m58, List.forall_mem_cons.mpr ⟨tv_m59, List.forall_mem_cons.mpr ⟨tv_m60, List.forall_mem_cons.mpr ⟨tv_m61, List.forall_mem_cons.mpr ⟨tv_m62, List.forall_mem_cons.mpr ⟨tv_m63, List.forall_mem_cons.mpr ⟨tv_m64, List.forall_mem_cons.mpr ⟨tv_m65, List.forall_mem_cons.mpr ⟨tv_m66, List.forall_mem_cons.mpr ⟨tv_m67, List.forall_mem_cons.mpr ⟨tv_m68, List.forall_mem_cons.mpr ⟨tv_m69, List.forall_mem_cons.mpr ⟨tv_m70, List.forall_mem_cons.mpr ⟨tv_m71, List.forall_mem_cons.mpr ⟨tv_m72, List.forall_mem_cons.mpr ⟨tv_m73, List.forall_mem_cons.mpr ⟨tv_m74, List.forall_mem_cons.mpr ⟨tv_m75, List.forall_mem_cons.mpr ⟨tv_m76, List.forall_mem_cons.mpr ⟨tv_m77, List.forall_mem_cons.mpr ⟨tv_m78, List.forall_mem_cons.mpr ⟨tv_m79, List.forall_mem_cons.mpr ⟨tv_m80, List.forall_mem_cons.mpr ⟨tv_m81, List.forall_mem_cons.mpr ⟨tv_m82, List.forall_mem_cons.mpr ⟨tv_m83, List.forall_mem_cons.mpr ⟨tv_m84, List.forall_mem_cons.mpr ⟨tv_m85, List.forall_mem_cons.mpr ⟨tv_m86, List.forall_mem_cons.mpr ⟨tv_m87, List.forall_mem_cons.mpr ⟨tv_m88, List.forall_mem_cons.mpr ⟨tv_m89, List.forall_mem_cons.mpr ⟨tv_m90, List.forall_mem_cons.mpr ⟨tv_m91, List.forall_mem_cons.mpr ⟨tv_m92, List.forall_mem_cons.mpr ⟨tv_m93, List.forall_mem_cons.mpr ⟨tv_m94, List.forall_mem_cons.mpr ⟨tv_m95, List.forall_mem_cons.mpr ⟨tv_m96, List.forall_mem_cons.mpr ⟨tv_m97, List.forall_mem_cons.mpr ⟨tv_m98, List.forall_mem_cons.mpr ⟨tv_m99, List.forall_mem_cons.mpr ⟨tv_m100, List.forall_mem_cons.mpr ⟨tv_m101, List.forall_mem_cons.mpr ⟨tv_m102, List.forall_mem_cons.mpr ⟨tv_m103, List.forall_mem_cons.mpr ⟨tv_m104, List.forall_mem_cons.mpr ⟨tv_m105, List.forall_mem_cons.mpr ⟨tv_m106, List.forall_mem_cons.mpr ⟨tv_m107, List.forall_mem_cons.mpr ⟨tv_m108, List.forall_mem_cons.mpr ⟨tv_m109, List.forall_mem_cons.mpr ⟨tv_m110, List.forall_mem_cons.mpr ⟨tv_m111, List.forall_mem_cons.mpr ⟨tv_m112, List.forall_mem_cons.mpr ⟨tv_m113, List.forall_mem_cons.mpr ⟨tv_m114, List.forall_mem_cons.mpr ⟨tv_m115, List.forall_mem_cons.mpr ⟨tv_m116, List.forall_mem_cons.mpr ⟨tv_m117, List.forall_mem_cons.mpr ⟨tv_m118, List.forall_mem_cons.mpr ⟨tv_m119, List.forall_mem_cons.mpr ⟨tv_m120, List.forall_mem_cons.mpr ⟨tv_m121, List.forall_mem_cons.mpr ⟨tv_m122, List.forall_mem_cons.mpr ⟨tv_m123, List.forall_mem_cons.mpr ⟨tv_m124, List.forall_mem_cons.mpr ⟨tv_m125, List.forall_mem_cons.mpr ⟨tv_m126, List.forall_mem_cons.mpr ⟨tv_m127, List.forall_mem_cons.mpr ⟨tv_m128, List.forall_mem_cons.mpr ⟨tv_m129, List.forall_mem_cons.mpr ⟨tv_m130, List.forall_mem_cons.mpr ⟨tv_m131, List.forall_mem_cons.mpr ⟨tv_m132, List.forall_mem_cons.mpr ⟨tv_m133, List.forall_mem_cons.mpr ⟨tv_m134, List.forall_mem_cons.mpr ⟨tv_m135, List.forall_mem_cons.mpr ⟨tv_m136, List.forall_mem_cons.mpr ⟨tv_m137, List.forall_mem_cons.mpr ⟨tv_m138, List.forall_mem_cons.mpr ⟨tv_m139, List.forall_mem_cons.mpr ⟨tv_m140, List.forall_mem_cons.mpr ⟨tv_m141, List.forall_mem_cons.mpr ⟨tv_m142, List.forall_mem_cons.mpr ⟨tv_m143, List.forall_mem_cons.mpr ⟨tv_m144, List.forall_mem_cons.mpr ⟨tv_m145, List.forall_mem_cons.mpr ⟨tv_m146, List.forall_mem_cons.mpr ⟨tv_m147, List.forall_mem_cons.mpr ⟨tv_m148, List.forall_mem_cons.mpr ⟨tv_m149, List.forall_mem_cons.mpr ⟨tv_m150, List.forall_mem_cons.mpr ⟨tv_m151, List.forall_mem_cons.mpr ⟨tv_m152, List.forall_mem_cons.mpr ⟨tv_m153, List.forall_mem_cons.mpr ⟨tv_m154, List.forall_mem_cons.mpr ⟨tv_m155, List.forall_mem_cons.mpr ⟨tv_m156, List.forall_mem_cons.mpr ⟨tv_m157, List.forall_mem_cons.mpr ⟨tv_m158, List.forall_mem_cons.mpr ⟨tv_m159, List.forall_mem_cons.mpr ⟨tv_m160, List.forall_mem_cons.mpr ⟨tv_m161, List.forall_mem_cons.mpr ⟨tv_m162, List.forall_mem_cons.mpr ⟨tv_m163, List.forall_mem_cons.mpr ⟨tv_m164, List.forall_mem_cons.mpr ⟨tv_m165, List.forall_mem_cons.mpr ⟨tv_m166, List.forall_mem_cons.mpr ⟨tv_m167, List.forall_mem_cons.mpr ⟨tv_m168, List.forall_mem_cons.mpr ⟨tv_m169, List.forall_mem_cons.mpr ⟨tv_m170, fun _ h => absurd h List.not_mem_nil⟩⟩⟩⟩⟩⟩⟩⟩⟩⟩⟩⟩⟩⟩⟩⟩⟩⟩⟩⟩⟩⟩⟩⟩⟩⟩⟩⟩⟩⟩⟩⟩⟩⟩⟩⟩⟩⟩⟩⟩⟩⟩⟩⟩⟩⟩⟩⟩⟩⟩⟩⟩⟩⟩⟩⟩⟩⟩⟩⟩⟩⟩⟩⟩⟩⟩⟩⟩⟩⟩⟩⟩⟩⟩⟩⟩⟩⟩⟩⟩⟩⟩⟩⟩⟩⟩⟩⟩⟩⟩⟩⟩⟩⟩⟩⟩⟩⟩⟩⟩⟩⟩⟩⟩⟩⟩⟩⟩⟩⟩⟩⟩⟩⟩⟩⟩⟩⟩⟩⟩⟩⟩⟩⟩⟩⟩⟩⟩⟩⟩⟩⟩⟩⟩⟩⟩⟩⟩⟩⟩⟩⟩⟩⟩⟩⟩⟩⟩⟩⟩⟩⟩⟩⟩⟩⟩⟩⟩⟩⟩⟩⟩⟩⟩⟩⟩⟩⟩⟩⟩⟩
end
section
/-! lowest: two longs by their common measure -/
theorem lo_rem (x y : Int64) (hy : ¬ y = 0) : (x - x / y * y).toInt.natAbs < y.toInt.natAbs := by
  have hY : y.toInt ≠ 0 := fun q => hy (Int64.toInt_inj.mp (by rw [q]; rfl))
  have hpos : 0 < y.toInt.natAbs := Int.natAbs_pos.mpr hY
  have h3 : (x.toInt.tmod y.toInt).natAbs < y.toInt.natAbs := by
    rw [Int.natAbs_tmod]
    exact Nat.mod_lt _ hpos
  have hr := ai_lrg y
  have h : (x - x / y * y).toInt = x.toInt.tmod y.toInt := by
    rw [Int64.toInt_sub, Int64.toInt_mul, Int64.toInt_div]
    simp only [Int.sub_bmod_bmod, Int.bmod_mul_bmod]
    have e : x.toInt - x.toInt.tdiv y.toInt * y.toInt = x.toInt.tmod y.toInt := by
      rw [Int.tmod_def, Int.mul_comm]
    rw [e]
    apply Int.bmod_eq_of_le <;> omega
  rw [h]
  exact h3
section LOW
variable {p : Program} {l : Launch} {e : Env} {R : Room} {s : State} {m : MethodId} {args : Array Value} {below : List Frame} {meth : Method} {c : Code} {H : Heap} {locs : List Loc} {cells slots : Nat} {Q : State → Prop}
theorem lo_cmp0 {b : Int64} : lg_cmp b 0 = 0 ↔ b = 0 := by
  rw [(ai_cmpL b 0).2]
  exact ⟨fun h => Int64.toInt_inj.mp h, fun h => by rw [h]⟩
theorem lo_loop (hx : p.tables.exec = Jvm.exec) (hb : c.code = cX6_lowest) (x0 y0 : Int64) (i4 : Int32) (hk : ∀ (q : Int64) (ls : Array Slot), lv_has ls 11 [] → W p l e R s m args below meth c H locs cells slots Q (F0 m 44 ls [.long q])) :
    ∀ (n : Nat) (a b : Int64) (ls : Array Slot), b.toInt.natAbs ≤ n → (b = 0 → ¬ a = 0) → lv_has ls 11 [(7, .long b), (5, .long a), (0, .long x0), (2, .long y0), (4, .int i4)] → W p l e R s m args below meth c H locs cells slots Q (F0 m 6 ls []) := by
  intro n
  induction n with
  | zero =>
    intro a b ls hn ha hl
    have hb0 : b = 0 := Int64.toInt_inj.mp (by show b.toInt = 0; omega)
    refine lv_lload hx hb (by decide +kernel : decode cX6_lowest 6 = .ok (.lload 7, 2)) (lv_at hl 0 rfl) ?_
    refine lv_lconst hx hb (by decide +kernel : decode cX6_lowest 8 = .ok (.lconst 0, 1)) (v := 0) rfl ?_
    refine W.lcmp hx hb (by decide +kernel : decode cX6_lowest 9 = .ok (.lcmp, 1)) ?_
    refine lv_if_eq hx hb (by decide +kernel : decode cX6_lowest 10 = .ok (.ifCond .eq 21, 3)) (tgt := 31) (by decide) (fun h0 => ?_) (fun h0 => absurd (lo_cmp0.mpr hb0) h0)
    refine lv_iload hx hb (by decide +kernel : decode cX6_lowest 31 = .ok (.iload 4, 2)) (lv_at hl 4 rfl) ?_
    refine lv_if_ne hx hb (by decide +kernel : decode cX6_lowest 33 = .ok (.ifCond .ne 7, 3)) (tgt := 40) (by decide) (fun h1 => ?_) (fun h1 => ?_)
    · refine lv_lload_n hx hb (by decide +kernel : decode cX6_lowest 40 = .ok (.lload_n 2, 1)) (i := 2) rfl (lv_at hl 3 rfl) ?_
      refine lv_lload hx hb (by decide +kernel : decode cX6_lowest 41 = .ok (.lload 5, 2)) (lv_at hl 1 rfl) ?_
      exact lv_ldiv hx hb (by decide +kernel : decode cX6_lowest 43 = .ok (.ldiv, 1)) (ha hb0) (hk _ ls (lv_sub hl [] rfl))
    · refine lv_lload_n hx hb (by decide +kernel : decode cX6_lowest 36 = .ok (.lload_n 0, 1)) (i := 0) rfl (lv_at hl 2 rfl) ?_
      refine lv_goto hx hb (by decide +kernel : decode cX6_lowest 37 = .ok (.goto 4, 3)) (tgt := 41) (by decide) ?_
      refine lv_lload hx hb (by decide +kernel : decode cX6_lowest 41 = .ok (.lload 5, 2)) (lv_at hl 1 rfl) ?_
      exact lv_ldiv hx hb (by decide +kernel : decode cX6_lowest 43 = .ok (.ldiv, 1)) (ha hb0) (hk _ ls (lv_sub hl [] rfl))
  | succ n ih =>
    intro a b ls hn ha hl
    refine lv_lload hx hb (by decide +kernel : decode cX6_lowest 6 = .ok (.lload 7, 2)) (lv_at hl 0 rfl) ?_
    refine lv_lconst hx hb (by decide +kernel : decode cX6_lowest 8 = .ok (.lconst 0, 1)) (v := 0) rfl ?_
    refine W.lcmp hx hb (by decide +kernel : decode cX6_lowest 9 = .ok (.lcmp, 1)) ?_
    refine lv_if_eq hx hb (by decide +kernel : decode cX6_lowest 10 = .ok (.ifCond .eq 21, 3)) (tgt := 31) (by decide) (fun h0 => ?_) (fun h0 => ?_)
    · have hb0 := lo_cmp0.mp h0
      refine lv_iload hx hb (by decide +kernel : decode cX6_lowest 31 = .ok (.iload 4, 2)) (lv_at hl 4 rfl) ?_
      refine lv_if_ne hx hb (by decide +kernel : decode cX6_lowest 33 = .ok (.ifCond .ne 7, 3)) (tgt := 40) (by decide) (fun h1 => ?_) (fun h1 => ?_)
      · refine lv_lload_n hx hb (by decide +kernel : decode cX6_lowest 40 = .ok (.lload_n 2, 1)) (i := 2) rfl (lv_at hl 3 rfl) ?_
        refine lv_lload hx hb (by decide +kernel : decode cX6_lowest 41 = .ok (.lload 5, 2)) (lv_at hl 1 rfl) ?_
        exact lv_ldiv hx hb (by decide +kernel : decode cX6_lowest 43 = .ok (.ldiv, 1)) (ha hb0) (hk _ ls (lv_sub hl [] rfl))
      · refine lv_lload_n hx hb (by decide +kernel : decode cX6_lowest 36 = .ok (.lload_n 0, 1)) (i := 0) rfl (lv_at hl 2 rfl) ?_
        refine lv_goto hx hb (by decide +kernel : decode cX6_lowest 37 = .ok (.goto 4, 3)) (tgt := 41) (by decide) ?_
        refine lv_lload hx hb (by decide +kernel : decode cX6_lowest 41 = .ok (.lload 5, 2)) (lv_at hl 1 rfl) ?_
        exact lv_ldiv hx hb (by decide +kernel : decode cX6_lowest 43 = .ok (.ldiv, 1)) (ha hb0) (hk _ ls (lv_sub hl [] rfl))
    · have hb0 : ¬ b = 0 := fun q => h0 (lo_cmp0.mpr q)
      refine lv_lload hx hb (by decide +kernel : decode cX6_lowest 13 = .ok (.lload 5, 2)) (lv_at hl 1 rfl) ?_
      refine lv_lload hx hb (by decide +kernel : decode cX6_lowest 15 = .ok (.lload 7, 2)) (lv_at hl 0 rfl) ?_
      refine lv_lrem hx hb (by decide +kernel : decode cX6_lowest 17 = .ok (.lrem, 1)) hb0 ?_
      refine lv_lstore hx hb (by decide +kernel : decode cX6_lowest 18 = .ok (.lstore 9, 2)) hl (by decide) (lv' := [(9, .long (a - a / b * b)), (7, .long b), (5, .long a), (0, .long x0), (2, .long y0), (4, .int i4)]) rfl (fun ls1 hl1 => ?_)
      refine lv_lload hx hb (by decide +kernel : decode cX6_lowest 20 = .ok (.lload 7, 2)) (lv_at hl1 1 rfl) ?_
      refine lv_lstore hx hb (by decide +kernel : decode cX6_lowest 22 = .ok (.lstore 5, 2)) hl1 (by decide) (lv' := [(5, .long b), (9, .long (a - a / b * b)), (7, .long b), (0, .long x0), (2, .long y0), (4, .int i4)]) rfl (fun ls2 hl2 => ?_)
      refine lv_lload hx hb (by decide +kernel : decode cX6_lowest 24 = .ok (.lload 9, 2)) (lv_at hl2 1 rfl) ?_
      refine lv_lstore hx hb (by decide +kernel : decode cX6_lowest 26 = .ok (.lstore 7, 2)) hl2 (by decide) (lv' := [(7, .long (a - a / b * b)), (5, .long b), (9, .long (a - a / b * b)), (0, .long x0), (2, .long y0), (4, .int i4)]) rfl (fun ls3 hl3 => ?_)
      refine lv_goto hx hb (by decide +kernel : decode cX6_lowest 28 = .ok (.goto (-22), 3)) (tgt := 6) (by decide) ?_
      have hlt := lo_rem a b hb0
      exact ih b (a - a / b * b) ls3 (by omega) (fun _ => hb0) (lv_sub hl3 [0, 1, 3, 4, 5] rfl)
theorem lo_walk (hx : p.tables.exec = Jvm.exec) (hb : c.code = cX6_lowest) {x0 y0 : Int64} {i4 : Int32} {ls : Array Slot} (h0 : ¬ y0 = 0) (hl : lv_has ls 11 [(0, .long x0), (2, .long y0), (4, .int i4)]) (hk : ∀ (q : Int64) (ls : Array Slot), lv_has ls 11 [] → W p l e R s m args below meth c H locs cells slots Q (F0 m 44 ls [.long q])) : W p l e R s m args below meth c H locs cells slots Q (F0 m 0 ls []) := by
  refine lv_lload_n hx hb (by decide +kernel : decode cX6_lowest 0 = .ok (.lload_n 0, 1)) (i := 0) rfl (lv_at hl 0 rfl) ?_
  refine lv_lstore hx hb (by decide +kernel : decode cX6_lowest 1 = .ok (.lstore 5, 2)) hl (by decide) (lv' := [(5, .long x0), (0, .long x0), (2, .long y0), (4, .int i4)]) rfl (fun ls1 hl1 => ?_)
  refine lv_lload_n hx hb (by decide +kernel : decode cX6_lowest 3 = .ok (.lload_n 2, 1)) (i := 2) rfl (lv_at hl1 2 rfl) ?_
  refine lv_lstore hx hb (by decide +kernel : decode cX6_lowest 4 = .ok (.lstore 7, 2)) hl1 (by decide) (lv' := [(7, .long y0), (5, .long x0), (0, .long x0), (2, .long y0), (4, .int i4)]) rfl (fun ls2 hl2 => ?_)
  exact lo_loop hx hb x0 y0 i4 hk _ x0 y0 ls2 (Nat.le_refl _) (fun q => absurd q h0) hl2
end LOW
theorem ai_anyE {α : Type} {o : Option α} {f : α → Bool} (h : o.any f = true) : ∃ v, o = some v ∧ f v = true := by
  cases o with
  | none => cases h
  | some v => exact ⟨v, rfl, h⟩
/-- .. as a walk that is known -/
theorem lo_known {TY : List ai_c} {WR : List (Nat × Nat × Nat)} {w0 : va_W} {ad : List Nat} {M : ai_m} {d : Nat} {p : Program} {l : Launch} {e : Env} {R : Room} {s : State} {m : MethodId} {args : Array Value} {below : List Frame} {meth : Method} {c : Code} {D : va_G} {tys : ai_ty} {A : Nat → Prop} {b L : Nat} {sx : Nat → Int32} {cells slots : Nat} {Q : State → Prop} {r0 : List Int} {st : ai_s} {x : ai_s} (C : ai_cx tb_m150 d p R s m args c D tys A b L sx cells slots) (h0 : st.1 = 0) (h1 : ((ai_get st.2.1 0).any fun v => ai_tL v.1) = true) (h2 : ((ai_get st.2.1 2).any fun v => (ai_l st.2.2.2.1 v).any fun p => decide (1 ≤ p.1)) = true) (h4 : ((ai_get st.2.1 4).any fun v => ai_tI v.1) = true) (hs : st.2.2.1.isEmpty = true) (hn : Nat.blt 1 st.2.2.2.1.length = true)
    (hx : x = (44, [], [(2, st.2.2.2.1.length, 0, 0)], ai_nu st.2.2.2.1 (-9223372036854775808) 9223372036854775807, st.2.2.2.2.1, st.2.2.2.2.2))
    (k : ai_G TY WR w0 ad tb_m150 p l e R s m args below meth c D tys A b L sx cells slots Q r0 x) : ai_G TY WR w0 ad tb_m150 p l e R s m args below meth c D tys A b L sx cells slots Q r0 st := by
  subst hx
  intro r lv skc ws H locs ls hxx g hP hD hS hl
  obtain ⟨g1, g2, g3, g4, g5, g6, g7, g8⟩ := g
  obtain ⟨v0, a0, b0⟩ := ai_anyE h1
  obtain ⟨v2, a2, b2⟩ := ai_anyE h2
  obtain ⟨v4, a4, b4⟩ := ai_anyE h4
  obtain ⟨w2, c2, e2⟩ := ai_anyE b2
  obtain ⟨n0, x0, i0, j0⟩ := ai_get_ok g3 a0
  obtain ⟨n2, x2, i2, j2⟩ := ai_get_ok g3 a2
  obtain ⟨n4, x4, i4, j4⟩ := ai_get_ok g3 a4
  obtain ⟨y0, rfl⟩ := ai_isL j0 b0
  obtain ⟨y4, rfl⟩ := ai_isI j4 b4
  obtain ⟨-, z, y2, -, rfl, -, l1, l2⟩ := ai_l_ok g1 j2 c2
  have e2 := of_decide_eq_true e2
  have hne : ¬ y2 = 0 := fun q => by
    rw [q] at l1
    have : (0 : Int64).toInt = 0 := rfl
    omega
  have hsk : skc = [] := by
    rw [List.isEmpty_iff.mp hs] at g4
    exact g4.nil
  subst hsk
  have hl' : lv_has ls 11 [(0, .long y0), (2, .long y2), (4, .int y4)] := ⟨hl.1, hl.2.1, fun q hq => by
    rcases List.mem_cons.mp hq with rfl | hq
    · exact lv_at hl n0 i0
    · rcases List.mem_cons.mp hq with rfl | hq
      · exact lv_at hl n2 i2
      · rcases List.mem_cons.mp hq with rfl | hq
        · exact lv_at hl n4 i4
        · cases hq⟩
  rw [h0]
  refine lo_walk (x0 := y0) (y0 := y2) (i4 := y4) C.1 C.2.1 hne hl' (fun q ls' hl2 => ?_)
  exact k (r ++ [q.toInt]) [] [.long q] ws H locs ls' (hxx.tr ai_x.push) ⟨g1.nu (ai_lrg q).1 (ai_lrg q).2, g2.mono ai_x.push, trivial, ⟨Or.inr (Or.inr (Or.inl ⟨rfl, _, _, ai_last g1.1, rfl, by show q.toInt = q.toInt + 0; omega⟩)), trivial⟩, g5, g6.mono ai_x.push, g7, ai_sc1 ai_x.push (by rw [g1.1]; exact Nat.le_of_ble_eq_true hn) g8⟩ hP hD hS hl2
end
section
/-! the machine's own String.length and charAt; spelling, isWord, wordRead: by hand -/
def jm (y : MethodName) (c : ByteArray) (n : Nat) (r : Option FieldType) : ai_m := (y, c, n, r, false, [], [], [], [], [], [], [])
def jd_C (M : ai_m) (d : Nat) (p : Program) (R : Room) (s : State) (m : MethodId) (args : Array Value) (c : Code) (D : va_G) (tys : ai_ty) (A : Nat → Prop) (aK aV : Nat → Nat) (cells slots : Nat) : Prop := (p.tables.exec = Jvm.exec) ∧ (c.code = M.2.1) ∧ (c.maxLocals = M.2.2.1) ∧ (s.vm.findClass M.1.cls = some m.cls) ∧ (∀ w ∈ ai_GT, w.before args s = true) ∧ (va_K D vwCl tys s) ∧ (ai_jt aK aV A s) ∧ (d ≤ R.frames) ∧ (36 * d ≤ R.locals) ∧ (cells ≤ R.cells) ∧ (slots ≤ R.slots)
theorem jd_C.x {M : ai_m} {d : Nat} {p : Program} {R : Room} {s : State} {m : MethodId} {args : Array Value} {c : Code} {D : va_G} {tys : ai_ty} {A : Nat → Prop} {aK aV : Nat → Nat} {cells slots : Nat} (C : jd_C M d p R s m args c D tys A aK aV cells slots) : p.tables.exec = Jvm.exec := C.1
theorem jd_C.b {M : ai_m} {d : Nat} {p : Program} {R : Room} {s : State} {m : MethodId} {args : Array Value} {c : Code} {D : va_G} {tys : ai_ty} {A : Nat → Prop} {aK aV : Nat → Nat} {cells slots : Nat} (C : jd_C M d p R s m args c D tys A aK aV cells slots) : c.code = M.2.1 := C.2.1
theorem jd_C.ml {M : ai_m} {d : Nat} {p : Program} {R : Room} {s : State} {m : MethodId} {args : Array Value} {c : Code} {D : va_G} {tys : ai_ty} {A : Nat → Prop} {aK aV : Nat → Nat} {cells slots : Nat} (C : jd_C M d p R s m args c D tys A aK aV cells slots) : c.maxLocals = M.2.2.1 := C.2.2.1
theorem jd_C.own {M : ai_m} {d : Nat} {p : Program} {R : Room} {s : State} {m : MethodId} {args : Array Value} {c : Code} {D : va_G} {tys : ai_ty} {A : Nat → Prop} {aK aV : Nat → Nat} {cells slots : Nat} (C : jd_C M d p R s m args c D tys A aK aV cells slots) : s.vm.findClass M.1.cls = some m.cls := C.2.2.2.1
theorem jd_C.ts {M : ai_m} {d : Nat} {p : Program} {R : Room} {s : State} {m : MethodId} {args : Array Value} {c : Code} {D : va_G} {tys : ai_ty} {A : Nat → Prop} {aK aV : Nat → Nat} {cells slots : Nat} (C : jd_C M d p R s m args c D tys A aK aV cells slots) : ∀ w ∈ ai_GT, w.before args s = true := C.2.2.2.2.1
theorem jd_C.K {M : ai_m} {d : Nat} {p : Program} {R : Room} {s : State} {m : MethodId} {args : Array Value} {c : Code} {D : va_G} {tys : ai_ty} {A : Nat → Prop} {aK aV : Nat → Nat} {cells slots : Nat} (C : jd_C M d p R s m args c D tys A aK aV cells slots) : va_K D vwCl tys s := C.2.2.2.2.2.1
theorem jd_C.J {M : ai_m} {d : Nat} {p : Program} {R : Room} {s : State} {m : MethodId} {args : Array Value} {c : Code} {D : va_G} {tys : ai_ty} {A : Nat → Prop} {aK aV : Nat → Nat} {cells slots : Nat} (C : jd_C M d p R s m args c D tys A aK aV cells slots) : ai_jt aK aV A s := C.2.2.2.2.2.2.1
theorem jd_C.fr {M : ai_m} {d : Nat} {p : Program} {R : Room} {s : State} {m : MethodId} {args : Array Value} {c : Code} {D : va_G} {tys : ai_ty} {A : Nat → Prop} {aK aV : Nat → Nat} {cells slots : Nat} (C : jd_C M d p R s m args c D tys A aK aV cells slots) : d ≤ R.frames := C.2.2.2.2.2.2.2.1
theorem jd_C.lc {M : ai_m} {d : Nat} {p : Program} {R : Room} {s : State} {m : MethodId} {args : Array Value} {c : Code} {D : va_G} {tys : ai_ty} {A : Nat → Prop} {aK aV : Nat → Nat} {cells slots : Nat} (C : jd_C M d p R s m args c D tys A aK aV cells slots) : 36 * d ≤ R.locals := C.2.2.2.2.2.2.2.2.1
theorem jd_C.ce {M : ai_m} {d : Nat} {p : Program} {R : Room} {s : State} {m : MethodId} {args : Array Value} {c : Code} {D : va_G} {tys : ai_ty} {A : Nat → Prop} {aK aV : Nat → Nat} {cells slots : Nat} (C : jd_C M d p R s m args c D tys A aK aV cells slots) : cells ≤ R.cells := C.2.2.2.2.2.2.2.2.2.1
theorem jd_C.sl {M : ai_m} {d : Nat} {p : Program} {R : Room} {s : State} {m : MethodId} {args : Array Value} {c : Code} {D : va_G} {tys : ai_ty} {A : Nat → Prop} {aK aV : Nat → Nat} {cells slots : Nat} (C : jd_C M d p R s m args c D tys A aK aV cells slots) : slots ≤ R.slots := C.2.2.2.2.2.2.2.2.2.2
def jd_P (D : va_G) (tys : ai_ty) (A : Nat → Prop) (aK aV : Nat → Nat) (H : Heap) : State → Prop := fun U => U.heap = H ∧ va_K D vwCl tys U ∧ ai_jt aK aV A U
def jd_Q (H : Heap) (S : Option Value → Prop) : Array Value → State → Outcome → State → Prop := fun _ _ oc t => ∃ v, oc = .returned v ∧ S v ∧ t.heap = H
theorem jd_met {M : ai_m} {d : Nat} {D : va_G} {tys : ai_ty} {A : Nat → Prop} {aK aV : Nat → Nat} {H : Heap} {vals : List Value} {S : Option Value → Prop} (l : Launch) (hpl : plainName M.1.cls = true) (hw : (lg_sl vals).length ≤ M.2.2.1)
    (walk : ∀ {p : Program} {e : Env} {s : State} {m : MethodId} {below : List Frame} {meth : Method} {c : Code} {ls : Array Slot}, jd_C M d p (ai_rm d) s m vals.toArray c D tys A aK aV 0 0 → s.heap = H → meth.sig.returnType = M.2.2.2.1 → meth.locks = false → lv_has ls M.2.2.1 (lv_args 0 vals) → W p l e (ai_rm d) s m vals.toArray below meth c s.heap [] 0 0 (MQ below (jd_Q H S) vals.toArray s 0 0 A) (F0 m 0 ls [])) :
    Met l M.1 (ai_ws M) (ai_rm d) (va_Pc vals (jd_P D tys A aK aV H)) (jd_Q H S) 0 0 A := by
  refine Met.ofW (cc := M.2.1) (maxL := M.2.2.1) (ret := M.2.2.2.1) hpl rfl ?_
  intro p e s m args below meth c s₁ B hml hv
  obtain ⟨rfl, hH, hK, hJ⟩ := hv
  have hts := atoms_spec (ws := ai_ws M) B.pre
  have hown := findClass_of_methodNamed B.named
  have hl := lv_entry vals (n := M.2.2.1) hw
  rw [lg_entry_eq]
  exact walk ⟨B.exec, B.bytes, hml, hown, fun w h => hts w (List.mem_cons_of_mem _ h), hK, hJ, Nat.le_refl _, Nat.le_refl _, Nat.zero_le _, Nat.zero_le _⟩ hH B.returns B.notSynchronized hl
section JDK
variable {M : ai_m} {d : Nat} {p : Program} {l : Launch} {e : Env} {R : Room} {s : State} {m : MethodId} {args : Array Value} {below : List Frame} {meth : Method} {c : Code} {D : va_G} {tys : ai_ty} {A : Nat → Prop} {aK aV : Nat → Nat} {H : Heap} {locs : List Loc} {cells slots : Nat} {Q : State → Prop} {pc : Nat} {ls : Array Slot} {rest : List Value} {S : Option Value → Prop}
theorem jd_PB {vals : List Value} : FrameBlind (va_Pc vals (jd_P D tys A aK aV H)) := fun a U g mk q => by
  obtain ⟨q0, q1, qK, qJ⟩ := q
  exact ⟨q0, q1, va_K.moved (u := U) (U := U.calling g mk a) (Vm.Alike.refl U.vm) qK, ai_jt.same (s := U) (U := U.calling g mk a) rfl rfl qJ⟩
theorem jd_PW (C : jd_C M d p R s m args c D tys A aK aV cells slots) {vals : List Value} (hS : va_S A s.heap H locs) : ∀ U : State, U.heap = H → s.WarmedH U.vm → va_Pc vals (jd_P D tys A aK aV H) vals.toArray U := fun U hU hW =>
  ⟨rfl, hU, va_K.moved hW.alike C.K, C.J.moved hW (by rw [hU]; exact hS)⟩
theorem jd_rm (C : jd_C M d p R s m args c D tys A aK aV cells slots) (h1 : 1 ≤ d) {M' : ai_m} (h2 : M'.2.2.1 ≤ 17) : (ai_rm (d - 1)).frames + 1 ≤ R.frames ∧ 8 + (M'.2.2.1 + 11) + (ai_rm (d - 1)).locals ≤ R.locals := by
  have a := C.fr
  have b := C.lc
  show d - 1 + 1 ≤ _ ∧ 8 + (M'.2.2.1 + 11) + 36 * (d - 1) ≤ _
  omega
/-- a call that changes nothing -/
theorem jd_V {M' : ai_m} {cls : String} {index a : Nat} {As : List Value} {n : Nat} (C : jd_C M d p R s m args c D tys A aK aV cells slots) (hS : va_S A s.heap H locs) (h1 : 1 ≤ d) (h2 : M'.2.2.1 ≤ 17) (h3 : (rest.map fun v => v.category).sum ≤ 8) (good : GoodIn ai_GT (wsV M.1.cls index cls M'.1 (ai_ws M'))) (hy : M'.1.cls = cls ∧ M'.1.cls ≠ "java/lang/invoke/MethodHandle" ∧ M'.1.cls ≠ "java/lang/invoke/VarHandle" ∧ (parseMethodDescriptor M'.1.desc).map (fun d => d.parameters.length) = some n)
    (recv : ∃ cell : Cell, H[a]? = some cell ∧ cell.vm.isStatics = false ∧ s.vm.findClass cls = some cell.cls) (met : Met l M'.1 (ai_ws M') (ai_rm (d - 1)) (va_Pc (.ref a :: As) (jd_P D tys A aK aV H)) (jd_Q H S) 0 0 A) (hlen : As.length = n) (hl : ls.size = M.2.2.1) {stk : List Value} (hstk : stk = As.reverse ++ .ref a :: rest) (hd : decode M.2.1 pc = .ok (.invokevirtual index, 3))
    (kk : ∀ (v : Option Value) (locs' : List Loc), S v → va_S A s.heap H locs' → W p l e R s m args below meth c H locs' cells slots Q (F0 m (pc + 3) ls (v.toList ++ rest))) : W p l e R s m args below meth c H locs cells slots Q (F0 m pc ls stk) := by
  subst hstk
  refine ai_callW (Qa := jd_Q H S (Value.ref a :: As).toArray) (free := A) (va_runV (C := cls) (As := As) (rest := rest) (Ts := ai_GT) (own := M.1.cls) ⟨C.x, C.b, C.ml, C.own, C.ts⟩ met (cwV n C.ts good rfl rfl rfl hy (jd_rm C h1 h2)) ⟨jd_PB, recv, jd_PW C hS⟩ rfl hlen hl rfl (lv_room h3) hd ⟨C.ce, C.sl⟩) ?_
  intro v st₀ t L h0 hL hq
  obtain ⟨v', e1, e2, e3⟩ := hq
  cases e1
  rw [e3]
  exact kk v (locs ++ L) e2 ⟨hS.1, hS.2.1, fun q hq => by
    rcases List.mem_append.mp hq with h | h
    · exact hS.2.2 q h
    · exact hL q h⟩
theorem jd_S {M' : ai_m} {index : Nat} {As : List Value} {n : Nat} (C : jd_C M d p R s m args c D tys A aK aV cells slots) (hS : va_S A s.heap H locs) (h1 : 1 ≤ d) (h2 : M'.2.2.1 ≤ 17) (h3 : (rest.map fun v => v.category).sum ≤ 8) (good : GoodIn ai_GT (va_wsS M.1.cls index M'.1 (ai_ws M'))) (hy : M'.1.cls ≠ "java/lang/invoke/MethodHandle" ∧ M'.1.cls ≠ "java/lang/invoke/VarHandle" ∧ (parseMethodDescriptor M'.1.desc).map (fun d => d.parameters.length) = some n)
    (met : Met l M'.1 (ai_ws M') (ai_rm (d - 1)) (va_Pc As (jd_P D tys A aK aV H)) (jd_Q H S) 0 0 A) (hlen : As.length = n) (hl : ls.size = M.2.2.1) {stk : List Value} (hstk : stk = As.reverse ++ rest) (hd : decode M.2.1 pc = .ok (.invokestatic index, 3))
    (kk : ∀ (v : Option Value) (locs' : List Loc), S v → va_S A s.heap H locs' → W p l e R s m args below meth c H locs' cells slots Q (F0 m (pc + 3) ls (v.toList ++ rest))) : W p l e R s m args below meth c H locs cells slots Q (F0 m pc ls stk) := by
  subst hstk
  refine ai_callW (Qa := jd_Q H S As.toArray) (free := A) (va_runS (As := As) (rest := rest) (Ts := ai_GT) (own := M.1.cls) ⟨C.x, C.b, C.ml, C.own, C.ts⟩ met (va_cwS n C.ts good rfl rfl rfl hy (jd_rm C h1 h2)) ⟨jd_PB, jd_PW C hS⟩ rfl hlen hl rfl (lv_room h3) hd ⟨C.ce, C.sl⟩) ?_
  intro v st₀ t L h0 hL hq
  obtain ⟨v', e1, e2, e3⟩ := hq
  cases e1
  rw [e3]
  exact kk v (locs ++ L) e2 ⟨hS.1, hS.2.1, fun q hq => by
    rcases List.mem_append.mp hq with h | h
    · exact hS.2.2 q h
    · exact hL q h⟩
theorem jd_gV {own cls : String} {index : Nat} {M' : ai_m} (hc : Cond.code M'.1 M'.2.1 M'.2.2.1 M'.2.2.2.1 ∈ ai_GT) (h1 : Cond.methodLink own index M'.1 ∈ ai_GT) (h2 : Cond.instanceMethod M'.1 ∈ ai_GT) (h3 : Cond.selects cls M'.1 M'.1 ∈ ai_GT) (h4 : Cond.initialized cls ∈ ai_GT) : GoodIn ai_GT (wsV own index cls M'.1 (ai_ws M')) := tv_good fun w hw => by
  unfold wsV at hw
  rcases List.mem_append.mp hw with hw | hw
  · simp only [List.mem_cons, List.not_mem_nil, or_false] at hw
    rcases hw with rfl | rfl | rfl | rfl
    · exact h1
    · exact h2
    · exact h3
    · exact h4
  · rcases List.mem_cons.mp hw with rfl | hw
    · exact hc
    · exact hw
theorem jd_gS {own : String} {index : Nat} {M' : ai_m} (hc : Cond.code M'.1 M'.2.1 M'.2.2.1 M'.2.2.2.1 ∈ ai_GT) (h1 : Cond.methodLink own index M'.1 ∈ ai_GT) (h2 : Cond.static M'.1 ∈ ai_GT) (h4 : Cond.initialized M'.1.cls ∈ ai_GT) : GoodIn ai_GT (va_wsS own index M'.1 (ai_ws M')) := tv_good fun w hw => by
  unfold va_wsS at hw
  rcases List.mem_append.mp hw with hw | hw
  · simp only [List.mem_cons, List.not_mem_nil, or_false] at hw
    rcases hw with rfl | rfl | rfl
    · exact h1
    · exact h2
    · exact h4
  · rcases List.mem_cons.mp hw with rfl | hw
    · exact hc
    · exact hw
end JDK
def jm_coder : ai_m := jm yJ0_coder_7d493 cJ0_coder_7d493 1 (some .byte)
set_option maxRecDepth 100000 in
theorem jc_coder : Cond.code yJ0_coder_7d493 cJ0_coder_7d493 1 (some .byte) ∈ ai_GT := List.mem_filter.mpr ⟨List.mem_of_getElem? (i := 342) rfl, rfl⟩
def jm_len : ai_m := jm yJ0_length_8abf5 cJ0_length_8abf5 1 (some .int)
set_option maxRecDepth 100000 in
theorem jc_len : Cond.code yJ0_length_8abf5 cJ0_length_8abf5 1 (some .int) ∈ ai_GT := List.mem_filter.mpr ⟨List.mem_of_getElem? (i := 338) rfl, rfl⟩
def jm_lat : ai_m := jm yJ0_isLatin1_aae02 cJ0_isLatin1_aae02 1 (some .boolean)
set_option maxRecDepth 100000 in
theorem jc_lat : Cond.code yJ0_isLatin1_aae02 cJ0_isLatin1_aae02 1 (some .boolean) ∈ ai_GT := List.mem_filter.mpr ⟨List.mem_of_getElem? (i := 352) rfl, rfl⟩
def jm_pre : ai_m := jm yJ3_checkIndex_8e157 cJ3_checkIndex_8e157 3 (some .int)
set_option maxRecDepth 100000 in
theorem jc_pre : Cond.code yJ3_checkIndex_8e157 cJ3_checkIndex_8e157 3 (some .int) ∈ ai_GT := List.mem_filter.mpr ⟨List.mem_of_getElem? (i := 363) rfl, rfl⟩
def jm_chk : ai_m := jm yJ0_checkIndex_df160 cJ0_checkIndex_df160 2 none
set_option maxRecDepth 100000 in
theorem jc_chk : Cond.code yJ0_checkIndex_df160 cJ0_checkIndex_df160 2 none ∈ ai_GT := List.mem_filter.mpr ⟨List.mem_of_getElem? (i := 358) rfl, rfl⟩
def jm_cl : ai_m := jm yJ1_charAt_3b067 cJ1_charAt_3b067 2 (some .char)
set_option maxRecDepth 100000 in
theorem jc_cl : Cond.code yJ1_charAt_3b067 cJ1_charAt_3b067 2 (some .char) ∈ ai_GT := List.mem_filter.mpr ⟨List.mem_of_getElem? (i := 355) rfl, rfl⟩
def jm_ca : ai_m := jm yJ0_charAt_5068e cJ0_charAt_5068e 2 (some .char)
set_option maxRecDepth 100000 in
theorem jc_ca : Cond.code yJ0_charAt_5068e cJ0_charAt_5068e 2 (some .char) ∈ ai_GT := List.mem_filter.mpr ⟨List.mem_of_getElem? (i := 348) rfl, rfl⟩
def jm_sp : ai_m := jm yX2_spelling cX2_spelling 1 (some (.object "java/lang/String"))
set_option maxRecDepth 100000 in
theorem jc_sp : Cond.code yX2_spelling cX2_spelling 1 (some (.object "java/lang/String")) ∈ ai_GT := List.mem_filter.mpr ⟨List.mem_of_getElem? (i := 323) rfl, rfl⟩
def jm_is : ai_m := jm yX2_isWord cX2_isWord 3 (some .boolean)
set_option maxRecDepth 100000 in
theorem jc_is : Cond.code yX2_isWord cX2_isWord 3 (some .boolean) ∈ ai_GT := List.mem_filter.mpr ⟨List.mem_of_getElem? (i := 334) rfl, rfl⟩
theorem jg_coder : GoodIn ai_GT (wsV RJ0 335 RJ0 yJ0_coder_7d493 (ai_ws jm_coder)) := jd_gV (M' := jm_coder) jc_coder (tw_mem (i := 339) (by decide +kernel) : (.methodLink RJ0 335 yJ0_coder_7d493 : Cond) ∈ ai_GT) (tw_mem (i := 340) (by decide +kernel) : (.instanceMethod yJ0_coder_7d493 : Cond) ∈ ai_GT) (tw_mem (i := 341) (by decide +kernel) : (.selects RJ0 yJ0_coder_7d493 yJ0_coder_7d493 : Cond) ∈ ai_GT) (tw_mem (i := 59) (by decide +kernel) : (.initialized RJ0 : Cond) ∈ ai_GT)
theorem jg_lat : GoodIn ai_GT (wsV RJ0 492 RJ0 yJ0_isLatin1_aae02 (ai_ws jm_lat)) := jd_gV (M' := jm_lat) jc_lat (tw_mem (i := 349) (by decide +kernel) : (.methodLink RJ0 492 yJ0_isLatin1_aae02 : Cond) ∈ ai_GT) (tw_mem (i := 350) (by decide +kernel) : (.instanceMethod yJ0_isLatin1_aae02 : Cond) ∈ ai_GT) (tw_mem (i := 351) (by decide +kernel) : (.selects RJ0 yJ0_isLatin1_aae02 yJ0_isLatin1_aae02 : Cond) ∈ ai_GT) (tw_mem (i := 59) (by decide +kernel) : (.initialized RJ0 : Cond) ∈ ai_GT)
theorem jg_pre : GoodIn ai_GT (va_wsS RJ0 1059 yJ3_checkIndex_8e157 (ai_ws jm_pre)) := jd_gS (M' := jm_pre) jc_pre (tw_mem (i := 361) (by decide +kernel) : (.methodLink RJ0 1059 yJ3_checkIndex_8e157 : Cond) ∈ ai_GT) (tw_mem (i := 362) (by decide +kernel) : (.static yJ3_checkIndex_8e157 : Cond) ∈ ai_GT) (tw_mem (i := 61) (by decide +kernel) : (.initialized RJ3 : Cond) ∈ ai_GT)
theorem jg_chk : GoodIn ai_GT (va_wsS RJ1 9 yJ0_checkIndex_df160 (ai_ws jm_chk)) := jd_gS (M' := jm_chk) jc_chk (tw_mem (i := 356) (by decide +kernel) : (.methodLink RJ1 9 yJ0_checkIndex_df160 : Cond) ∈ ai_GT) (tw_mem (i := 357) (by decide +kernel) : (.static yJ0_checkIndex_df160 : Cond) ∈ ai_GT) (tw_mem (i := 59) (by decide +kernel) : (.initialized RJ0 : Cond) ∈ ai_GT)
theorem jg_cl : GoodIn ai_GT (va_wsS RJ0 495 yJ1_charAt_3b067 (ai_ws jm_cl)) := jd_gS (M' := jm_cl) jc_cl (tw_mem (i := 353) (by decide +kernel) : (.methodLink RJ0 495 yJ1_charAt_3b067 : Cond) ∈ ai_GT) (tw_mem (i := 354) (by decide +kernel) : (.static yJ1_charAt_3b067 : Cond) ∈ ai_GT) (tw_mem (i := 60) (by decide +kernel) : (.initialized RJ1 : Cond) ∈ ai_GT)
theorem jg_len : GoodIn ai_GT (wsV RX2 141 RJ0 yJ0_length_8abf5 (ai_ws jm_len)) := jd_gV (M' := jm_len) jc_len (tw_mem (i := 335) (by decide +kernel) : (.methodLink RX2 141 yJ0_length_8abf5 : Cond) ∈ ai_GT) (tw_mem (i := 336) (by decide +kernel) : (.instanceMethod yJ0_length_8abf5 : Cond) ∈ ai_GT) (tw_mem (i := 337) (by decide +kernel) : (.selects RJ0 yJ0_length_8abf5 yJ0_length_8abf5 : Cond) ∈ ai_GT) (tw_mem (i := 59) (by decide +kernel) : (.initialized RJ0 : Cond) ∈ ai_GT)
theorem jg_ca : GoodIn ai_GT (wsV RX2 145 RJ0 yJ0_charAt_5068e (ai_ws jm_ca)) := jd_gV (M' := jm_ca) jc_ca (tw_mem (i := 345) (by decide +kernel) : (.methodLink RX2 145 yJ0_charAt_5068e : Cond) ∈ ai_GT) (tw_mem (i := 346) (by decide +kernel) : (.instanceMethod yJ0_charAt_5068e : Cond) ∈ ai_GT) (tw_mem (i := 347) (by decide +kernel) : (.selects RJ0 yJ0_charAt_5068e yJ0_charAt_5068e : Cond) ∈ ai_GT) (tw_mem (i := 59) (by decide +kernel) : (.initialized RJ0 : Cond) ∈ ai_GT)
theorem jg_sp : GoodIn ai_GT (va_wsS RX2 133 yX2_spelling (ai_ws jm_sp)) := jd_gS (M' := jm_sp) jc_sp (tw_mem (i := 321) (by decide +kernel) : (.methodLink RX2 133 yX2_spelling : Cond) ∈ ai_GT) (tw_mem (i := 322) (by decide +kernel) : (.static yX2_spelling : Cond) ∈ ai_GT) (tw_mem (i := 54) (by decide +kernel) : (.initialized RX2 : Cond) ∈ ai_GT)
theorem jg_is : GoodIn ai_GT (wsV RX2 137 RX2 yX2_isWord (ai_ws jm_is)) := jd_gV (M' := jm_is) jc_is (tw_mem (i := 331) (by decide +kernel) : (.methodLink RX2 137 yX2_isWord : Cond) ∈ ai_GT) (tw_mem (i := 333) (by decide +kernel) : (.instanceMethod yX2_isWord : Cond) ∈ ai_GT) (tw_mem (i := 5) (by decide +kernel) : (.selects RX2 yX2_isWord yX2_isWord : Cond) ∈ ai_GT) (tw_mem (i := 54) (by decide +kernel) : (.initialized RX2 : Cond) ∈ ai_GT)
theorem jd_coder (l : Launch) {d : Nat} {D : va_G} {tys : ai_ty} {A : Nat → Prop} {aK aV : Nat → Nat} {H : Heap} {i : Nat} (hi : i < 7) : Met l yJ0_coder_7d493 (ai_ws jm_coder) (ai_rm d) (va_Pc [.ref (aK i)] (jd_P D tys A aK aV H)) (jd_Q H (fun v => v = some (.int 0))) 0 0 A := by
  refine jd_met (M := jm_coder) l (by decide) (by first | exact Nat.le_refl _ | exact Nat.le_of_ble_eq_true rfl) ?_
  intro p e s m below meth c ls C hH hr hlk hl
  have hS : va_S A s.heap s.heap [] := va_S.rf
  have hr : meth.sig.returnType = (some .byte) := hr
  have hl : lv_has ls 1 [(0, .ref (aK i))] := hl
  refine va_gets C.x C.b C.J.2.2.1 hS C.own (C.ts _ (tw_mem (i := 343) (by decide +kernel) : (.fieldLink RJ0 38 "java/lang/String" "COMPACT_STRINGS" "Z" : Cond) ∈ ai_GT)) (fun _ h => h) (by decide +kernel : decode cJ0_coder_7d493 0 = .ok (.getstatic 38, 3)) ?_
  refine lv_if_eq C.x C.b (by decide +kernel : decode cJ0_coder_7d493 3 = .ok (.ifCond .eq 10, 3)) (tgt := 13) (by decide) (fun h => absurd h (by decide)) (fun _ => ?_)
  refine lv_aload_n C.x C.b (by decide +kernel : decode cJ0_coder_7d493 6 = .ok (.aload_n 0, 1)) rfl (lv_at hl 0 rfl) ?_
  refine vk_getf C.x C.b (C.J.1.1 i hi).2.1 hS C.own (C.ts _ (tw_mem (i := 1133) (by decide +kernel) : (.fieldLink RJ0 15 "java/lang/String" "coder" "B" : Cond) ∈ ai_GT)) (fun _ h => h) (by decide +kernel : decode cJ0_coder_7d493 7 = .ok (.getfield 15, 3)) ?_
  refine lv_goto C.x C.b (by decide +kernel : decode cJ0_coder_7d493 10 = .ok (.goto 4, 3)) (tgt := 14) (by decide) ?_
  exact W.zret C.x C.b hr rfl (fun t ht hW => ⟨_, rfl, rfl, by rw [ht]; exact hH⟩) hS.2.2 (by decide +kernel : decode cJ0_coder_7d493 14 = .ok (.ireturn, 1)) hlk
theorem jd_lat (l : Launch) {d : Nat} {D : va_G} {tys : ai_ty} {A : Nat → Prop} {aK aV : Nat → Nat} {H : Heap} {i : Nat} (hi : i < 7) : Met l yJ0_isLatin1_aae02 (ai_ws jm_lat) (ai_rm d) (va_Pc [.ref (aK i)] (jd_P D tys A aK aV H)) (jd_Q H (fun v => v = some (.int 1))) 0 0 A := by
  refine jd_met (M := jm_lat) l (by decide) (by first | exact Nat.le_refl _ | exact Nat.le_of_ble_eq_true rfl) ?_
  intro p e s m below meth c ls C hH hr hlk hl
  have hS : va_S A s.heap s.heap [] := va_S.rf
  have hr : meth.sig.returnType = (some .boolean) := hr
  have hl : lv_has ls 1 [(0, .ref (aK i))] := hl
  refine va_gets C.x C.b C.J.2.2.1 hS C.own (C.ts _ (tw_mem (i := 343) (by decide +kernel) : (.fieldLink RJ0 38 "java/lang/String" "COMPACT_STRINGS" "Z" : Cond) ∈ ai_GT)) (fun _ h => h) (by decide +kernel : decode cJ0_isLatin1_aae02 0 = .ok (.getstatic 38, 3)) ?_
  refine lv_if_eq C.x C.b (by decide +kernel : decode cJ0_isLatin1_aae02 3 = .ok (.ifCond .eq 14, 3)) (tgt := 17) (by decide) (fun h => absurd h (by decide)) (fun _ => ?_)
  refine lv_aload_n C.x C.b (by decide +kernel : decode cJ0_isLatin1_aae02 6 = .ok (.aload_n 0, 1)) rfl (lv_at hl 0 rfl) ?_
  refine vk_getf C.x C.b (C.J.1.1 i hi).2.1 hS C.own (C.ts _ (tw_mem (i := 1133) (by decide +kernel) : (.fieldLink RJ0 15 "java/lang/String" "coder" "B" : Cond) ∈ ai_GT)) (fun _ h => h) (by decide +kernel : decode cJ0_isLatin1_aae02 7 = .ok (.getfield 15, 3)) ?_
  refine lv_if_ne C.x C.b (by decide +kernel : decode cJ0_isLatin1_aae02 10 = .ok (.ifCond .ne 7, 3)) (tgt := 17) (by decide) (fun h => absurd rfl h) (fun _ => ?_)
  refine lv_iconst C.x C.b (by decide +kernel : decode cJ0_isLatin1_aae02 13 = .ok (.iconst 1, 1)) (v := 1) rfl ?_
  refine lv_goto C.x C.b (by decide +kernel : decode cJ0_isLatin1_aae02 14 = .ok (.goto 4, 3)) (tgt := 18) (by decide) ?_
  exact W.zret C.x C.b hr rfl (fun t ht hW => ⟨_, rfl, rfl, by rw [ht]; exact hH⟩) hS.2.2 (by decide +kernel : decode cJ0_isLatin1_aae02 18 = .ok (.ireturn, 1)) hlk
theorem jd_len (l : Launch) {d : Nat} {D : va_G} {tys : ai_ty} {A : Nat → Prop} {aK aV : Nat → Nat} {H : Heap} {i : Nat} (hi : i < 7) (hd : 1 ≤ d) : Met l yJ0_length_8abf5 (ai_ws jm_len) (ai_rm d) (va_Pc [.ref (aK i)] (jd_P D tys A aK aV H)) (jd_Q H (fun v => v = some (.int (Int32.ofNat (ai_JL.getD i 0))))) 0 0 A := by
  refine jd_met (M := jm_len) l (by decide) (by first | exact Nat.le_refl _ | exact Nat.le_of_ble_eq_true rfl) ?_
  intro p e s m below meth c ls C hH hr hlk hl
  have hS : va_S A s.heap s.heap [] := va_S.rf
  have hr : meth.sig.returnType = (some .int) := hr
  have hl : lv_has ls 1 [(0, .ref (aK i))] := hl
  refine lv_aload_n C.x C.b (by decide +kernel : decode cJ0_length_8abf5 0 = .ok (.aload_n 0, 1)) rfl (lv_at hl 0 rfl) ?_
  refine vk_getf C.x C.b (C.J.1.1 i hi).2.2.1 hS C.own (C.ts _ (tw_mem (i := 1132) (by decide +kernel) : (.fieldLink RJ0 9 "java/lang/String" "value" "[B" : Cond) ∈ ai_GT)) (fun _ h => h) (by decide +kernel : decode cJ0_length_8abf5 1 = .ok (.getfield 9, 3)) ?_
  refine va_tlen C.x C.b (C.J.1.1 i hi).2.2.2 hS rfl (by decide +kernel : decode cJ0_length_8abf5 4 = .ok (.arraylength, 1)) ?_
  refine lv_aload_n C.x C.b (by decide +kernel : decode cJ0_length_8abf5 5 = .ok (.aload_n 0, 1)) rfl (lv_at hl 0 rfl) ?_
  refine jd_V (M' := jm_coder) (As := []) C hS hd (by decide) (Nat.le_of_ble_eq_true rfl) jg_coder (by decide +kernel) (vk_recv C.J.1 hi hS) (jd_coder l hi) rfl hl.1 rfl (by decide +kernel : decode cJ0_length_8abf5 6 = .ok (.invokevirtual 335, 3)) (fun v locs' hv hS' => ?_)
  subst hv
  refine lv_ishr C.x C.b (by decide +kernel : decode cJ0_length_8abf5 9 = .ok (.ishr, 1)) ?_
  exact W.iret C.x C.b hr (fun t ht hW => ⟨_, rfl, by rw [(by decide : ∀ i, i < 7 → (Int32.ofNat (ai_JL.getD i 0)) >>> ((0 : Int32) &&& 31) = Int32.ofNat (ai_JL.getD i 0)) i hi], by rw [ht]; exact hH⟩) hS'.2.2 (by decide +kernel : decode cJ0_length_8abf5 10 = .ok (.ireturn, 1)) hlk
theorem jd_pre (l : Launch) {d : Nat} {D : va_G} {tys : ai_ty} {A : Nat → Prop} {aK aV : Nat → Nat} {H : Heap} {k n : Int32} {f : Value} (hf : (lg_sl [.int k, .int n, f]).length ≤ 3) (h1 : ¬ k < 0) (h2 : k < n) : Met l yJ3_checkIndex_8e157 (ai_ws jm_pre) (ai_rm d) (va_Pc [.int k, .int n, f] (jd_P D tys A aK aV H)) (jd_Q H (fun v => v = some (.int k))) 0 0 A := by
  refine jd_met (M := jm_pre) l (by decide) hf ?_
  intro p e s m below meth c ls C hH hr hlk hl
  have hS : va_S A s.heap s.heap [] := va_S.rf
  have hr : meth.sig.returnType = some .int := hr
  refine lv_iload_n C.x C.b (by decide +kernel : decode cJ3_checkIndex_8e157 0 = .ok (.iload_n 0, 1)) rfl (lv_at hl 0 rfl) ?_
  refine lv_if_lt C.x C.b (by decide +kernel : decode cJ3_checkIndex_8e157 1 = .ok (.ifCond .lt 8, 3)) (tgt := 9) (by decide) (fun h => absurd h h1) (fun _ => ?_)
  refine lv_iload_n C.x C.b (by decide +kernel : decode cJ3_checkIndex_8e157 4 = .ok (.iload_n 0, 1)) rfl (lv_at hl 0 rfl) ?_
  refine lv_iload_n C.x C.b (by decide +kernel : decode cJ3_checkIndex_8e157 5 = .ok (.iload_n 1, 1)) rfl (lv_at hl 1 rfl) ?_
  refine lv_icmp_lt C.x C.b (by decide +kernel : decode cJ3_checkIndex_8e157 6 = .ok (.if_icmp .lt 10, 3)) (tgt := 16) (by decide) (fun _ => ?_) (fun h => absurd h2 h)
  refine lv_iload_n C.x C.b (by decide +kernel : decode cJ3_checkIndex_8e157 16 = .ok (.iload_n 0, 1)) rfl (lv_at hl 0 rfl) ?_
  exact W.iret C.x C.b hr (fun t ht hW => ⟨_, rfl, rfl, by rw [ht]; exact hH⟩) hS.2.2 (by decide +kernel : decode cJ3_checkIndex_8e157 17 = .ok (.ireturn, 1)) hlk
theorem jd_chk (l : Launch) {d : Nat} {D : va_G} {tys : ai_ty} {A : Nat → Prop} {aK aV : Nat → Nat} {H : Heap} {k n : Int32} (h1 : ¬ k < 0) (h2 : k < n) (hd : 1 ≤ d) : Met l yJ0_checkIndex_df160 (ai_ws jm_chk) (ai_rm d) (va_Pc [.int k, .int n] (jd_P D tys A aK aV H)) (jd_Q H (fun v => v = none)) 0 0 A := by
  refine jd_met (M := jm_chk) l (by decide) (by first | exact Nat.le_refl _ | exact Nat.le_of_ble_eq_true rfl) ?_
  intro p e s m below meth c ls C hH hr hlk hl
  have hS : va_S A s.heap s.heap [] := va_S.rf
  have hr : meth.sig.returnType = none := hr
  have hl : lv_has ls 2 [(0, .int k), (1, .int n)] := hl
  rcases C.J.2.2.2 with hz | ⟨q, hz⟩
  · refine lv_iload_n C.x C.b (by decide +kernel : decode cJ0_checkIndex_df160 0 = .ok (.iload_n 0, 1)) rfl (lv_at hl 0 rfl) ?_
    refine lv_iload_n C.x C.b (by decide +kernel : decode cJ0_checkIndex_df160 1 = .ok (.iload_n 1, 1)) rfl (lv_at hl 1 rfl) ?_
    refine va_gets C.x C.b hz hS C.own (C.ts _ (tw_mem (i := 359) (by decide +kernel) : (.fieldLink RJ0 1053 "jdk/internal/util/Preconditions" "SIOOBE_FORMATTER" "Ljava/util/function/BiFunction;" : Cond) ∈ ai_GT)) (fun _ h => h) (by decide +kernel : decode cJ0_checkIndex_df160 2 = .ok (.getstatic 1053, 3)) ?_
    refine jd_S (M' := jm_pre) (n := 3) (As := [.int k, .int n, .null]) (rest := []) C hS hd (by decide) (Nat.le_of_ble_eq_true rfl) jg_pre (by decide +kernel) (jd_pre l (Nat.le_of_ble_eq_true rfl) h1 h2) rfl hl.1 rfl (by decide +kernel : decode cJ0_checkIndex_df160 5 = .ok (.invokestatic 1059, 3)) (fun v locs' hv hS' => ?_)
    subst hv
    refine lv_pop C.x C.b (by decide +kernel : decode cJ0_checkIndex_df160 8 = .ok (.pop, 1)) rfl ?_
    exact W.vret C.x C.b hr (fun t ht hW => ⟨_, rfl, rfl, by rw [ht]; exact hH⟩) hS'.2.2 (by decide +kernel : decode cJ0_checkIndex_df160 9 = .ok (.return_, 1)) hlk
  · refine lv_iload_n C.x C.b (by decide +kernel : decode cJ0_checkIndex_df160 0 = .ok (.iload_n 0, 1)) rfl (lv_at hl 0 rfl) ?_
    refine lv_iload_n C.x C.b (by decide +kernel : decode cJ0_checkIndex_df160 1 = .ok (.iload_n 1, 1)) rfl (lv_at hl 1 rfl) ?_
    refine va_gets C.x C.b hz hS C.own (C.ts _ (tw_mem (i := 359) (by decide +kernel) : (.fieldLink RJ0 1053 "jdk/internal/util/Preconditions" "SIOOBE_FORMATTER" "Ljava/util/function/BiFunction;" : Cond) ∈ ai_GT)) (fun _ h => h) (by decide +kernel : decode cJ0_checkIndex_df160 2 = .ok (.getstatic 1053, 3)) ?_
    refine jd_S (M' := jm_pre) (n := 3) (As := [.int k, .int n, .ref q]) (rest := []) C hS hd (by decide) (Nat.le_of_ble_eq_true rfl) jg_pre (by decide +kernel) (jd_pre l (Nat.le_of_ble_eq_true rfl) h1 h2) rfl hl.1 rfl (by decide +kernel : decode cJ0_checkIndex_df160 5 = .ok (.invokestatic 1059, 3)) (fun v locs' hv hS' => ?_)
    subst hv
    refine lv_pop C.x C.b (by decide +kernel : decode cJ0_checkIndex_df160 8 = .ok (.pop, 1)) rfl ?_
    exact W.vret C.x C.b hr (fun t ht hW => ⟨_, rfl, rfl, by rw [ht]; exact hH⟩) hS'.2.2 (by decide +kernel : decode cJ0_checkIndex_df160 9 = .ok (.return_, 1)) hlk

theorem jd_in {k N : Nat} (h : k < N) (hN : N < 256) : ¬ Int32.ofNat k < 0 ∧ Int32.ofNat k < Int32.ofNat N ∧ vp_in (Int32.ofNat k) N ∧ (Int32.ofNat k).toNatClampNeg = k := ⟨nI_pos (by omega), nI_lt h (by omega), vp_in_nI h (by omega), nI_clamp (by omega)⟩
def ai_jb (i k : Nat) : Int32 := (ai_JB.getD i []).getD k 0
theorem jd_b : ∀ i, i < 7 → ai_JL.getD i 0 < 256 ∧ ∀ k, k < ai_JL.getD i 0 → (((ai_jb i k) &&& 255).toUInt32 % 65536).toInt32 = ai_jb i k := by decide
theorem jd_cl (l : Launch) {d : Nat} {D : va_G} {tys : ai_ty} {A : Nat → Prop} {aK aV : Nat → Nat} {H : Heap} {i k : Nat} (hi : i < 7) (hk : k < ai_JL.getD i 0) (hd : 2 ≤ d) : Met l yJ1_charAt_3b067 (ai_ws jm_cl) (ai_rm d) (va_Pc [.ref (aV i), .int (Int32.ofNat k)] (jd_P D tys A aK aV H)) (jd_Q H (fun v => v = some (.int (ai_jb i k)))) 0 0 A := by
  refine jd_met (M := jm_cl) l (by decide) (by first | exact Nat.le_refl _ | exact Nat.le_of_ble_eq_true rfl) ?_
  intro p e s m below meth c ls C hH hr hlk hl
  have hS : va_S A s.heap s.heap [] := va_S.rf
  have hr : meth.sig.returnType = (some .char) := hr
  have hl : lv_has ls 2 [(0, .ref (aV i)), (1, .int (Int32.ofNat k))] := hl
  obtain ⟨hb1, hb2⟩ := jd_b i hi
  obtain ⟨i1, i2, i3, i4⟩ := jd_in hk hb1
  refine lv_iload_n C.x C.b (by decide +kernel : decode cJ1_charAt_3b067 0 = .ok (.iload_n 1, 1)) rfl (lv_at hl 1 rfl) ?_
  refine lv_aload_n C.x C.b (by decide +kernel : decode cJ1_charAt_3b067 1 = .ok (.aload_n 0, 1)) rfl (lv_at hl 0 rfl) ?_
  refine va_tlen C.x C.b (C.J.1.1 i hi).2.2.2 hS rfl (by decide +kernel : decode cJ1_charAt_3b067 2 = .ok (.arraylength, 1)) ?_
  refine jd_S (M' := jm_chk) (n := 2) (As := [.int (Int32.ofNat k), .int (Int32.ofNat (ai_JL.getD i 0))]) (rest := []) C hS (by omega) (by decide) (Nat.le_of_ble_eq_true rfl) jg_chk (by decide +kernel) (jd_chk l i1 i2 (by omega)) rfl hl.1 rfl (by decide +kernel : decode cJ1_charAt_3b067 3 = .ok (.invokestatic 9, 3)) (fun v locs' hv hS' => ?_)
  subst hv
  refine lv_aload_n C.x C.b (by decide +kernel : decode cJ1_charAt_3b067 6 = .ok (.aload_n 0, 1)) rfl (lv_at hl 0 rfl) ?_
  refine lv_iload_n C.x C.b (by decide +kernel : decode cJ1_charAt_3b067 7 = .ok (.iload_n 1, 1)) rfl (lv_at hl 1 rfl) ?_
  refine va_tb C.x C.b (C.J.1.1 i hi).2.2.2 hS' i3 (v := .int (ai_jb i k)) (by rw [i4]; rfl) (by decide +kernel : decode cJ1_charAt_3b067 8 = .ok (.baload, 1)) ?_
  refine lv_sipush C.x C.b (by decide +kernel : decode cJ1_charAt_3b067 9 = .ok (.sipush 255, 3)) (v := 255) rfl ?_
  refine lv_iand C.x C.b (by decide +kernel : decode cJ1_charAt_3b067 12 = .ok (.iand, 1)) ?_
  refine lv_i2c C.x C.b (by decide +kernel : decode cJ1_charAt_3b067 13 = .ok (.i2c, 1)) (v := ai_jb i k) (hb2 k hk) ?_
  exact W.zret C.x C.b hr (by rw [← hb2 k hk]; exact pk_nc _) (fun t ht hW => ⟨_, rfl, rfl, by rw [ht]; exact hH⟩) hS'.2.2 (by decide +kernel : decode cJ1_charAt_3b067 14 = .ok (.ireturn, 1)) hlk
theorem jd_ca (l : Launch) {d : Nat} {D : va_G} {tys : ai_ty} {A : Nat → Prop} {aK aV : Nat → Nat} {H : Heap} {i k : Nat} (hi : i < 7) (hk : k < ai_JL.getD i 0) (hd : 3 ≤ d) : Met l yJ0_charAt_5068e (ai_ws jm_ca) (ai_rm d) (va_Pc [.ref (aK i), .int (Int32.ofNat k)] (jd_P D tys A aK aV H)) (jd_Q H (fun v => v = some (.int (ai_jb i k)))) 0 0 A := by
  refine jd_met (M := jm_ca) l (by decide) (by first | exact Nat.le_refl _ | exact Nat.le_of_ble_eq_true rfl) ?_
  intro p e s m below meth c ls C hH hr hlk hl
  have hS : va_S A s.heap s.heap [] := va_S.rf
  have hr : meth.sig.returnType = (some .char) := hr
  have hl : lv_has ls 2 [(0, .ref (aK i)), (1, .int (Int32.ofNat k))] := hl
  obtain ⟨hb1, hb2⟩ := jd_b i hi
  refine lv_aload_n C.x C.b (by decide +kernel : decode cJ0_charAt_5068e 0 = .ok (.aload_n 0, 1)) rfl (lv_at hl 0 rfl) ?_
  refine jd_V (M' := jm_lat) (As := []) (rest := []) C hS (by omega) (by decide) (Nat.le_of_ble_eq_true rfl) jg_lat (by decide +kernel) (vk_recv C.J.1 hi hS) (jd_lat l hi) rfl hl.1 rfl (by decide +kernel : decode cJ0_charAt_5068e 1 = .ok (.invokevirtual 492, 3)) (fun v locs' hv hS' => ?_)
  subst hv
  refine lv_if_eq C.x C.b (by decide +kernel : decode cJ0_charAt_5068e 4 = .ok (.ifCond .eq 12, 3)) (tgt := 16) (by decide) (fun h => absurd h (by decide)) (fun _ => ?_)
  refine lv_aload_n C.x C.b (by decide +kernel : decode cJ0_charAt_5068e 7 = .ok (.aload_n 0, 1)) rfl (lv_at hl 0 rfl) ?_
  refine vk_getf C.x C.b (C.J.1.1 i hi).2.2.1 hS' C.own (C.ts _ (tw_mem (i := 1132) (by decide +kernel) : (.fieldLink RJ0 9 "java/lang/String" "value" "[B" : Cond) ∈ ai_GT)) (fun _ h => h) (by decide +kernel : decode cJ0_charAt_5068e 8 = .ok (.getfield 9, 3)) ?_
  refine lv_iload_n C.x C.b (by decide +kernel : decode cJ0_charAt_5068e 11 = .ok (.iload_n 1, 1)) rfl (lv_at hl 1 rfl) ?_
  refine jd_S (M' := jm_cl) (n := 2) (As := [.ref (aV i), .int (Int32.ofNat k)]) (rest := []) C hS' (by omega) (by decide) (Nat.le_of_ble_eq_true rfl) jg_cl (by decide +kernel) (jd_cl l hi hk (by omega)) rfl hl.1 rfl (by decide +kernel : decode cJ0_charAt_5068e 12 = .ok (.invokestatic 495, 3)) (fun v locs2 hv hS2 => ?_)
  subst hv
  exact W.zret C.x C.b hr (by rw [← hb2 k hk]; exact pk_nc _) (fun t ht hW => ⟨_, rfl, rfl, by rw [ht]; exact hH⟩) hS2.2.2 (by decide +kernel : decode cJ0_charAt_5068e 15 = .ok (.ireturn, 1)) hlk
theorem jd_sp0 (l : Launch) {d : Nat} {D : va_G} {tys : ai_ty} {A : Nat → Prop} {aK aV : Nat → Nat} {H : Heap} : Met l yX2_spelling (ai_ws jm_sp) (ai_rm d) (va_Pc [.int 0] (jd_P D tys A aK aV H)) (jd_Q H (fun v => v = some (.ref (aK 0)))) 0 0 A := by
  refine jd_met (M := jm_sp) l (by decide) (by first | exact Nat.le_refl _ | exact Nat.le_of_ble_eq_true rfl) ?_
  intro p e s m below meth c ls C hH hr hlk hl
  have hS : va_S A s.heap s.heap [] := va_S.rf
  have hr : meth.sig.returnType = (some (.object "java/lang/String")) := hr
  have hl : lv_has ls 1 [(0, .int 0)] := hl
  have hR : vk_R RX2 149 "plain" (aK 0) s := C.J.2.1 0 (149, "plain") rfl
  refine lv_iload_n C.x C.b (by decide +kernel : decode cX2_spelling 0 = .ok (.iload_n 0, 1)) rfl (lv_at hl 0 rfl) ?_
  refine lv_tableIn C.x C.b (by decide +kernel : decode cX2_spelling 1 = .ok (.tableswitch 57 0 5 #[39, 42, 45, 48, 51, 54], 39)) (x := 0) (by decide) (by decide) (off := 39) rfl (tgt := 40) (by decide) ?_
  refine va_ldcS C.x C.b C.own hR (by decide +kernel : decode cX2_spelling 40 = .ok (.ldc 149, 2)) ?_
  exact W.aret C.x C.b hr (Or.inl ⟨_, rfl⟩) (Or.inr ⟨_, rfl⟩) (fun t ht hW => ⟨_, rfl, rfl, by rw [ht]; exact hH⟩) hS.2.2 (by decide +kernel : decode cX2_spelling 42 = .ok (.areturn, 1)) hlk
theorem jd_sp1 (l : Launch) {d : Nat} {D : va_G} {tys : ai_ty} {A : Nat → Prop} {aK aV : Nat → Nat} {H : Heap} : Met l yX2_spelling (ai_ws jm_sp) (ai_rm d) (va_Pc [.int 1] (jd_P D tys A aK aV H)) (jd_Q H (fun v => v = some (.ref (aK 1)))) 0 0 A := by
  refine jd_met (M := jm_sp) l (by decide) (by first | exact Nat.le_refl _ | exact Nat.le_of_ble_eq_true rfl) ?_
  intro p e s m below meth c ls C hH hr hlk hl
  have hS : va_S A s.heap s.heap [] := va_S.rf
  have hr : meth.sig.returnType = (some (.object "java/lang/String")) := hr
  have hl : lv_has ls 1 [(0, .int 1)] := hl
  have hR : vk_R RX2 151 "snake" (aK 1) s := C.J.2.1 1 (151, "snake") rfl
  refine lv_iload_n C.x C.b (by decide +kernel : decode cX2_spelling 0 = .ok (.iload_n 0, 1)) rfl (lv_at hl 0 rfl) ?_
  refine lv_tableIn C.x C.b (by decide +kernel : decode cX2_spelling 1 = .ok (.tableswitch 57 0 5 #[39, 42, 45, 48, 51, 54], 39)) (x := 1) (by decide) (by decide) (off := 42) rfl (tgt := 43) (by decide) ?_
  refine va_ldcS C.x C.b C.own hR (by decide +kernel : decode cX2_spelling 43 = .ok (.ldc 151, 2)) ?_
  exact W.aret C.x C.b hr (Or.inl ⟨_, rfl⟩) (Or.inr ⟨_, rfl⟩) (fun t ht hW => ⟨_, rfl, rfl, by rw [ht]; exact hH⟩) hS.2.2 (by decide +kernel : decode cX2_spelling 45 = .ok (.areturn, 1)) hlk
theorem jd_sp2 (l : Launch) {d : Nat} {D : va_G} {tys : ai_ty} {A : Nat → Prop} {aK aV : Nat → Nat} {H : Heap} : Met l yX2_spelling (ai_ws jm_sp) (ai_rm d) (va_Pc [.int 2] (jd_P D tys A aK aV H)) (jd_Q H (fun v => v = some (.ref (aK 2)))) 0 0 A := by
  refine jd_met (M := jm_sp) l (by decide) (by first | exact Nat.le_refl _ | exact Nat.le_of_ble_eq_true rfl) ?_
  intro p e s m below meth c ls C hH hr hlk hl
  have hS : va_S A s.heap s.heap [] := va_S.rf
  have hr : meth.sig.returnType = (some (.object "java/lang/String")) := hr
  have hl : lv_has ls 1 [(0, .int 2)] := hl
  have hR : vk_R RX2 153 "sea" (aK 2) s := C.J.2.1 2 (153, "sea") rfl
  refine lv_iload_n C.x C.b (by decide +kernel : decode cX2_spelling 0 = .ok (.iload_n 0, 1)) rfl (lv_at hl 0 rfl) ?_
  refine lv_tableIn C.x C.b (by decide +kernel : decode cX2_spelling 1 = .ok (.tableswitch 57 0 5 #[39, 42, 45, 48, 51, 54], 39)) (x := 2) (by decide) (by decide) (off := 45) rfl (tgt := 46) (by decide) ?_
  refine va_ldcS C.x C.b C.own hR (by decide +kernel : decode cX2_spelling 46 = .ok (.ldc 153, 2)) ?_
  exact W.aret C.x C.b hr (Or.inl ⟨_, rfl⟩) (Or.inr ⟨_, rfl⟩) (fun t ht hW => ⟨_, rfl, rfl, by rw [ht]; exact hH⟩) hS.2.2 (by decide +kernel : decode cX2_spelling 48 = .ok (.areturn, 1)) hlk
theorem jd_sp3 (l : Launch) {d : Nat} {D : va_G} {tys : ai_ty} {A : Nat → Prop} {aK aV : Nat → Nat} {H : Heap} : Met l yX2_spelling (ai_ws jm_sp) (ai_rm d) (va_Pc [.int 3] (jd_P D tys A aK aV H)) (jd_Q H (fun v => v = some (.ref (aK 3)))) 0 0 A := by
  refine jd_met (M := jm_sp) l (by decide) (by first | exact Nat.le_refl _ | exact Nat.le_of_ble_eq_true rfl) ?_
  intro p e s m below meth c ls C hH hr hlk hl
  have hS : va_S A s.heap s.heap [] := va_S.rf
  have hr : meth.sig.returnType = (some (.object "java/lang/String")) := hr
  have hl : lv_has ls 1 [(0, .int 3)] := hl
  have hR : vk_R RX2 155 "age" (aK 3) s := C.J.2.1 3 (155, "age") rfl
  refine lv_iload_n C.x C.b (by decide +kernel : decode cX2_spelling 0 = .ok (.iload_n 0, 1)) rfl (lv_at hl 0 rfl) ?_
  refine lv_tableIn C.x C.b (by decide +kernel : decode cX2_spelling 1 = .ok (.tableswitch 57 0 5 #[39, 42, 45, 48, 51, 54], 39)) (x := 3) (by decide) (by decide) (off := 48) rfl (tgt := 49) (by decide) ?_
  refine va_ldcS C.x C.b C.own hR (by decide +kernel : decode cX2_spelling 49 = .ok (.ldc 155, 2)) ?_
  exact W.aret C.x C.b hr (Or.inl ⟨_, rfl⟩) (Or.inr ⟨_, rfl⟩) (fun t ht hW => ⟨_, rfl, rfl, by rw [ht]; exact hH⟩) hS.2.2 (by decide +kernel : decode cX2_spelling 51 = .ok (.areturn, 1)) hlk
theorem jd_sp4 (l : Launch) {d : Nat} {D : va_G} {tys : ai_ty} {A : Nat → Prop} {aK aV : Nat → Nat} {H : Heap} : Met l yX2_spelling (ai_ws jm_sp) (ai_rm d) (va_Pc [.int 4] (jd_P D tys A aK aV H)) (jd_Q H (fun v => v = some (.ref (aK 4)))) 0 0 A := by
  refine jd_met (M := jm_sp) l (by decide) (by first | exact Nat.le_refl _ | exact Nat.le_of_ble_eq_true rfl) ?_
  intro p e s m below meth c ls C hH hr hlk hl
  have hS : va_S A s.heap s.heap [] := va_S.rf
  have hr : meth.sig.returnType = (some (.object "java/lang/String")) := hr
  have hl : lv_has ls 1 [(0, .int 4)] := hl
  have hR : vk_R RX2 157 "guest" (aK 4) s := C.J.2.1 4 (157, "guest") rfl
  refine lv_iload_n C.x C.b (by decide +kernel : decode cX2_spelling 0 = .ok (.iload_n 0, 1)) rfl (lv_at hl 0 rfl) ?_
  refine lv_tableIn C.x C.b (by decide +kernel : decode cX2_spelling 1 = .ok (.tableswitch 57 0 5 #[39, 42, 45, 48, 51, 54], 39)) (x := 4) (by decide) (by decide) (off := 51) rfl (tgt := 52) (by decide) ?_
  refine va_ldcS C.x C.b C.own hR (by decide +kernel : decode cX2_spelling 52 = .ok (.ldc 157, 2)) ?_
  exact W.aret C.x C.b hr (Or.inl ⟨_, rfl⟩) (Or.inr ⟨_, rfl⟩) (fun t ht hW => ⟨_, rfl, rfl, by rw [ht]; exact hH⟩) hS.2.2 (by decide +kernel : decode cX2_spelling 54 = .ok (.areturn, 1)) hlk
theorem jd_sp5 (l : Launch) {d : Nat} {D : va_G} {tys : ai_ty} {A : Nat → Prop} {aK aV : Nat → Nat} {H : Heap} : Met l yX2_spelling (ai_ws jm_sp) (ai_rm d) (va_Pc [.int 5] (jd_P D tys A aK aV H)) (jd_Q H (fun v => v = some (.ref (aK 5)))) 0 0 A := by
  refine jd_met (M := jm_sp) l (by decide) (by first | exact Nat.le_refl _ | exact Nat.le_of_ble_eq_true rfl) ?_
  intro p e s m below meth c ls C hH hr hlk hl
  have hS : va_S A s.heap s.heap [] := va_S.rf
  have hr : meth.sig.returnType = (some (.object "java/lang/String")) := hr
  have hl : lv_has ls 1 [(0, .int 5)] := hl
  have hR : vk_R RX2 159 "laughs" (aK 5) s := C.J.2.1 5 (159, "laughs") rfl
  refine lv_iload_n C.x C.b (by decide +kernel : decode cX2_spelling 0 = .ok (.iload_n 0, 1)) rfl (lv_at hl 0 rfl) ?_
  refine lv_tableIn C.x C.b (by decide +kernel : decode cX2_spelling 1 = .ok (.tableswitch 57 0 5 #[39, 42, 45, 48, 51, 54], 39)) (x := 5) (by decide) (by decide) (off := 54) rfl (tgt := 55) (by decide) ?_
  refine va_ldcS C.x C.b C.own hR (by decide +kernel : decode cX2_spelling 55 = .ok (.ldc 159, 2)) ?_
  exact W.aret C.x C.b hr (Or.inl ⟨_, rfl⟩) (Or.inr ⟨_, rfl⟩) (fun t ht hW => ⟨_, rfl, rfl, by rw [ht]; exact hH⟩) hS.2.2 (by decide +kernel : decode cX2_spelling 57 = .ok (.areturn, 1)) hlk
theorem jd_sp6 (l : Launch) {d : Nat} {D : va_G} {tys : ai_ty} {A : Nat → Prop} {aK aV : Nat → Nat} {H : Heap} : Met l yX2_spelling (ai_ws jm_sp) (ai_rm d) (va_Pc [.int 6] (jd_P D tys A aK aV H)) (jd_Q H (fun v => v = some (.ref (aK 6)))) 0 0 A := by
  refine jd_met (M := jm_sp) l (by decide) (by first | exact Nat.le_refl _ | exact Nat.le_of_ble_eq_true rfl) ?_
  intro p e s m below meth c ls C hH hr hlk hl
  have hS : va_S A s.heap s.heap [] := va_S.rf
  have hr : meth.sig.returnType = (some (.object "java/lang/String")) := hr
  have hl : lv_has ls 1 [(0, .int 6)] := hl
  have hR : vk_R RX2 160 "plan" (aK 6) s := C.J.2.1 6 (160, "plan") rfl
  refine lv_iload_n C.x C.b (by decide +kernel : decode cX2_spelling 0 = .ok (.iload_n 0, 1)) rfl (lv_at hl 0 rfl) ?_
  refine lv_tableOut C.x C.b (by decide +kernel : decode cX2_spelling 1 = .ok (.tableswitch 57 0 5 #[39, 42, 45, 48, 51, 54], 39)) (x := 6) (Or.inr (by decide)) (tgt := 58) (by decide) ?_
  refine va_ldcS C.x C.b C.own hR (by decide +kernel : decode cX2_spelling 58 = .ok (.ldc 160, 2)) ?_
  exact W.aret C.x C.b hr (Or.inl ⟨_, rfl⟩) (Or.inr ⟨_, rfl⟩) (fun t ht hW => ⟨_, rfl, rfl, by rw [ht]; exact hH⟩) hS.2.2 (by decide +kernel : decode cX2_spelling 60 = .ok (.areturn, 1)) hlk
theorem jd_sp (l : Launch) {d : Nat} {D : va_G} {tys : ai_ty} {A : Nat → Prop} {aK aV : Nat → Nat} {H : Heap} {i : Nat} (hi : i < 7) : Met l yX2_spelling (ai_ws jm_sp) (ai_rm d) (va_Pc [.int (Int32.ofNat i)] (jd_P D tys A aK aV H)) (jd_Q H (fun v => v = some (.ref (aK i)))) 0 0 A := by
  match i, hi with
  | 0, _ => exact jd_sp0 l
  | 1, _ => exact jd_sp1 l
  | 2, _ => exact jd_sp2 l
  | 3, _ => exact jd_sp3 l
  | 4, _ => exact jd_sp4 l
  | 5, _ => exact jd_sp5 l
  | 6, _ => exact jd_sp6 l
end
section
/-! isWord, wordRead; the methods whose walk is known -/
theorem jd_get {M : ai_m} {d : Nat} {p : Program} {l : Launch} {e : Env} {R : Room} {s : State} {m : MethodId} {args : Array Value} {below : List Frame} {meth : Method} {c : Code} {D : va_G} {tys : ai_ty} {A : Nat → Prop} {aK aV : Nat → Nat} {H : Heap} {locs : List Loc} {cells slots : Nat} {Q : State → Prop} {pc : Nat} {ls : Array Slot} {rest : List Value} (C : jd_C M d p R s m args c D tys A aK aV cells slots) {ci j idx q0 a : Nat} (hf : ai_flok M.1.cls ci j idx) {ws : va_W} {fs : List Value} {v : Value} (hP : va_P D vwCl ws H) (w1 : ws[q0]? = some (a, .inr (ci, fs))) (hv : fs[j]? = some v) (hd : decode M.2.1 pc = .ok (.getfield idx, 3)) (k : W p l e R s m args below meth c H locs cells slots Q (F0 m (pc + 3) ls (v :: rest))) : W p l e R s m args below meth c H locs cells slots Q (F0 m pc ls (.ref a :: rest)) := by
  obtain ⟨C0, T0, N0, f1, f2, f3, f4⟩ := hf
  exact va_get C.x C.b C.ts f4 C.own C.K hP q0 w1 f1 j f2 (C.ts _ f3) (fun _ h => h) hv hd k
theorem jf_11 : ai_flok RX2 2 0 11 := tv_m37.1.1.2.1 (11, 2, 0) (by decide)
theorem jf_41 : ai_flok RX2 2 7 41 := tv_m37.1.1.2.1 (41, 2, 7) (by decide)
theorem jf_68 : ai_flok RX2 2 9 68 := tv_m37.1.1.2.1 (68, 2, 9) (by decide)
set_option maxHeartbeats 1000000 in
theorem jd_is (l : Launch) {d : Nat} {D : va_G} {tys : ai_ty} {A : Nat → Prop} {aK aV : Nat → Nat} {H : Heap} {i : Nat} (hi : i < 7) (hd : 4 ≤ d) {ws : va_W} {a q27 t0 : Nat} {fs : List Value} {zt zf : Int32} {cA : ClassId} {f : Nat → Int32} (hP : va_P D vwCl ws H) (w1 : ws[26]? = some (a, .inr (2, fs))) (f0 : fs[0]? = some (.ref q27)) (f7 : fs[7]? = some (.int zt)) (f9 : fs[9]? = some (.int zf)) (b1 : 0 ≤ zf.toInt) (b2 : zt.toInt ≤ 160) (b3 : 0 ≤ zt.toInt) (b4 : zf.toInt ≤ 160) (w2 : ws[27]? = some (q27, .inl (cA, 160, .inl f))) (ht : tys[t0]? = some (cA, .int)) : Met l yX2_isWord (ai_ws jm_is) (ai_rm d) (va_Pc [.ref a, .ref (aK i)] (jd_P D tys A aK aV H)) (jd_Q H (fun v => v = some (.int 0) ∨ v = some (.int 1))) 0 0 A := by
  refine jd_met (M := jm_is) l (by decide) (by first | exact Nat.le_refl _ | exact Nat.le_of_ble_eq_true rfl) ?_
  intro p e s m below meth c ls C hH hr hlk hl
  have hS : va_S A s.heap s.heap [] := va_S.rf
  have hr : meth.sig.returnType = (some .boolean) := hr
  subst hH
  obtain ⟨hb1, -⟩ := jd_b i hi
  have hl : lv_has ls 3 [(0, .ref a), (1, .ref (aK i))] := hl
  generalize hN : ai_JL.getD i 0 = N at hb1
  have hNI : (Int32.ofNat N).toInt = (N : Int) := nI_toInt (by omega)
  have loop : Int32.ofNat N = zt - zf → ∀ (n k : Nat), k + n = N → ∀ (ls : Array Slot) (locs : List Loc), lv_has ls 3 [(2, .int (Int32.ofNat k)), (0, .ref a), (1, .ref (aK i))] → va_S A s.heap s.heap locs → W p l e (ai_rm d) s m ([Value.ref a, Value.ref (aK i)] : List Value).toArray below meth c s.heap locs 0 0 (MQ below (jd_Q s.heap (fun v => v = some (.int 0) ∨ v = some (.int 1))) ([Value.ref a, Value.ref (aK i)] : List Value).toArray s 0 0 A) (F0 m 20 ls []) := by
    intro heq n
    have hsub : (zt - zf).toInt = zt.toInt - zf.toInt := ai_subI (by omega) (by omega)
    have hNz : (N : Int) = zt.toInt - zf.toInt := by rw [← hsub, ← heq, hNI]
    induction n with
    | zero =>
      intro k hk ls locs hl hS
      refine lv_iload_n C.x C.b (by decide +kernel : decode cX2_isWord 20 = .ok (.iload_n 2, 1)) rfl (lv_at hl 0 rfl) ?_
      refine lv_aload_n C.x C.b (by decide +kernel : decode cX2_isWord 21 = .ok (.aload_n 1, 1)) rfl (lv_at hl 2 rfl) ?_
      refine jd_V (M' := jm_len) (As := []) (rest := [.int (Int32.ofNat k)]) C hS (by omega) (by decide) (Nat.le_of_ble_eq_true rfl) jg_len (by decide +kernel) (vk_recv C.J.1 hi hS) (jd_len l hi (by omega)) rfl hl.1 rfl (by decide +kernel : decode cX2_isWord 22 = .ok (.invokevirtual 141, 3)) (fun v locs1 hv hS1 => ?_)

      subst hv
      refine lv_icmp_ge C.x C.b (by decide +kernel : decode cX2_isWord 25 = .ok (.if_icmp .ge 30, 3)) (tgt := 55) (by decide) (fun _ => ?_) (fun h => absurd (by rw [hN, show k = N by omega]; exact Int32.le_refl _) h)
      refine lv_iconst C.x C.b (by decide +kernel : decode cX2_isWord 55 = .ok (.iconst 1, 1)) (v := 1) rfl ?_
      exact W.zret C.x C.b hr rfl (fun t ht hW => ⟨_, rfl, Or.inr rfl, ht⟩) hS1.2.2 (by decide +kernel : decode cX2_isWord 56 = .ok (.ireturn, 1)) hlk
    | succ n ih =>
      intro k hk ls locs hl hS
      have hkN : k < ai_JL.getD i 0 := by rw [hN]; omega
      obtain ⟨i1, i2, i3, i4⟩ := jd_in (k := k) (N := N) (by omega) hb1
      refine lv_iload_n C.x C.b (by decide +kernel : decode cX2_isWord 20 = .ok (.iload_n 2, 1)) rfl (lv_at hl 0 rfl) ?_
      refine lv_aload_n C.x C.b (by decide +kernel : decode cX2_isWord 21 = .ok (.aload_n 1, 1)) rfl (lv_at hl 2 rfl) ?_
      refine jd_V (M' := jm_len) (As := []) (rest := [.int (Int32.ofNat k)]) C hS (by omega) (by decide) (Nat.le_of_ble_eq_true rfl) jg_len (by decide +kernel) (vk_recv C.J.1 hi hS) (jd_len l hi (by omega)) rfl hl.1 rfl (by decide +kernel : decode cX2_isWord 22 = .ok (.invokevirtual 141, 3)) (fun v locs1 hv hS1 => ?_)

      subst hv
      refine lv_icmp_ge C.x C.b (by decide +kernel : decode cX2_isWord 25 = .ok (.if_icmp .ge 30, 3)) (tgt := 55) (by decide) (fun h => absurd i2 (Int32.not_lt.mpr (by rw [← hN]; exact h))) (fun _ => ?_)
      refine lv_aload_n C.x C.b (by decide +kernel : decode cX2_isWord 28 = .ok (.aload_n 0, 1)) rfl (lv_at hl 1 rfl) ?_
      refine jd_get C jf_11 hP w1 f0 (by decide +kernel : decode cX2_isWord 29 = .ok (.getfield 11, 3)) ?_
      refine lv_aload_n C.x C.b (by decide +kernel : decode cX2_isWord 32 = .ok (.aload_n 0, 1)) rfl (lv_at hl 1 rfl) ?_
      refine jd_get C jf_68 hP w1 f9 (by decide +kernel : decode cX2_isWord 33 = .ok (.getfield 68, 3)) ?_
      refine lv_iload_n C.x C.b (by decide +kernel : decode cX2_isWord 36 = .ok (.iload_n 2, 1)) rfl (lv_at hl 0 rfl) ?_
      refine lv_iadd C.x C.b (by decide +kernel : decode cX2_isWord 37 = .ok (.iadd, 1)) ?_
      have hkI : (Int32.ofNat k).toInt = (k : Int) := nI_toInt (by omega)
      have hix : (zf + Int32.ofNat k).toInt = zf.toInt + k := by rw [ai_addI (by omega) (by omega), hkI]
      refine va_iald C.x C.b C.K hP 27 t0 w2 ht (vp_in_iff.mpr ⟨by omega, by omega⟩) (by decide +kernel : decode cX2_isWord 38 = .ok (.iaload, 1)) ?_
      refine lv_aload_n C.x C.b (by decide +kernel : decode cX2_isWord 39 = .ok (.aload_n 1, 1)) rfl (lv_at hl 2 rfl) ?_
      refine lv_iload_n C.x C.b (by decide +kernel : decode cX2_isWord 40 = .ok (.iload_n 2, 1)) rfl (lv_at hl 0 rfl) ?_
      refine jd_V (M' := jm_ca) (n := 1) (As := [.int (Int32.ofNat k)]) C hS1 (by omega) (by decide) (Nat.le_of_ble_eq_true rfl) jg_ca (by decide +kernel) (vk_recv C.J.1 hi hS1) (jd_ca l hi hkN (by omega)) rfl hl.1 rfl (by decide +kernel : decode cX2_isWord 41 = .ok (.invokevirtual 145, 3)) (fun v locs2 hv hS2 => ?_)
      subst hv
      refine lv_icmp_eq C.x C.b (by decide +kernel : decode cX2_isWord 44 = .ok (.if_icmp .eq 5, 3)) (tgt := 49) (by decide) (fun _ => ?_) (fun _ => ?_)
      · refine lv_iinc C.x C.b (by decide +kernel : decode cX2_isWord 49 = .ok (.iinc 2 1, 3)) hl (k := 0) rfl (v := Int32.ofNat (k + 1)) (nI_succ k).symm (by decide) (lv' := [(2, .int (Int32.ofNat (k + 1))), (0, .ref a), (1, .ref (aK i))]) rfl (fun ls3 hl3 => ?_)
        refine lv_goto C.x C.b (by decide +kernel : decode cX2_isWord 52 = .ok (.goto (-32), 3)) (tgt := 20) (by decide) ?_
        exact ih (k + 1) (by omega) ls3 locs2 hl3 hS2
      · refine lv_iconst C.x C.b (by decide +kernel : decode cX2_isWord 47 = .ok (.iconst 0, 1)) (v := 0) rfl ?_
        exact W.zret C.x C.b hr rfl (fun t ht hW => ⟨_, rfl, Or.inl rfl, ht⟩) hS2.2.2 (by decide +kernel : decode cX2_isWord 48 = .ok (.ireturn, 1)) hlk
  refine lv_aload_n C.x C.b (by decide +kernel : decode cX2_isWord 0 = .ok (.aload_n 1, 1)) rfl (lv_at hl 1 rfl) ?_
  refine jd_V (M' := jm_len) (As := []) (rest := []) C hS (by omega) (by decide) (Nat.le_of_ble_eq_true rfl) jg_len (by decide +kernel) (vk_recv C.J.1 hi hS) (jd_len l hi (by omega)) rfl hl.1 rfl (by decide +kernel : decode cX2_isWord 1 = .ok (.invokevirtual 141, 3)) (fun v locs1 hv hS1 => ?_)

  subst hv
  refine lv_aload_n C.x C.b (by decide +kernel : decode cX2_isWord 4 = .ok (.aload_n 0, 1)) rfl (lv_at hl 0 rfl) ?_
  refine jd_get C jf_41 hP w1 f7 (by decide +kernel : decode cX2_isWord 5 = .ok (.getfield 41, 3)) ?_
  refine lv_aload_n C.x C.b (by decide +kernel : decode cX2_isWord 8 = .ok (.aload_n 0, 1)) rfl (lv_at hl 0 rfl) ?_
  refine jd_get C jf_68 hP w1 f9 (by decide +kernel : decode cX2_isWord 9 = .ok (.getfield 68, 3)) ?_
  refine lv_isub C.x C.b (by decide +kernel : decode cX2_isWord 12 = .ok (.isub, 1)) ?_
  refine lv_icmp_eq C.x C.b (by decide +kernel : decode cX2_isWord 13 = .ok (.if_icmp .eq 5, 3)) (tgt := 18) (by decide) (fun heq => ?_) (fun _ => ?_)
  · refine lv_iconst C.x C.b (by decide +kernel : decode cX2_isWord 18 = .ok (.iconst 0, 1)) (v := 0) rfl ?_
    refine lv_istore_n C.x C.b (by decide +kernel : decode cX2_isWord 19 = .ok (.istore_n 2, 1)) (i := 2) rfl hl (by decide) (lv' := [(2, .int 0), (0, .ref a), (1, .ref (aK i))]) rfl (fun ls2 hl2 => ?_)
    exact loop (by rw [← hN]; exact heq) N 0 (by omega) ls2 locs1 hl2 hS1
  · refine lv_iconst C.x C.b (by decide +kernel : decode cX2_isWord 16 = .ok (.iconst 0, 1)) (v := 0) rfl ?_
    exact W.zret C.x C.b hr rfl (fun t ht hW => ⟨_, rfl, Or.inl rfl, ht⟩) hS1.2.2 (by decide +kernel : decode cX2_isWord 17 = .ok (.ireturn, 1)) hlk
theorem jd_fi {ad : List Nat} {f : ai_f} {x : Value} (h : ai_fd ad f x) (h1 : f.1 = 1) : ∃ i : Int32, x = .int i ∧ f.2.2.1 ≤ i.toInt ∧ i.toInt ≤ f.2.2.2 := by
  rcases h with ⟨q, -⟩ | ⟨-, h⟩ | ⟨q, -⟩
  · omega
  · exact h
  · omega
theorem jd_fr {ad : List Nat} {f : ai_f} {x : Value} (h : ai_fd ad f x) (h1 : f.1 = 0) : ∃ q, ad[f.2.1]? = some q ∧ x = .ref q := by
  rcases h with ⟨-, h⟩ | ⟨q, -⟩ | ⟨q, -⟩
  · exact h
  · omega
  · omega
/-- wordRead's walk -/
theorem jd_wr {d : Nat} {p : Program} {l : Launch} {e : Env} {R : Room} {s : State} {m : MethodId} {args : Array Value} {below : List Frame} {meth : Method} {c : Code} {D : va_G} {tys : ai_ty} {A : Nat → Prop} {aK aV : Nat → Nat} {H : Heap} {locs : List Loc} {cells slots : Nat} {Q : State → Prop} {ls : Array Slot} (C : jd_C tb_m37 d p R s m args c D tys A aK aV cells slots) (h6 : 6 ≤ d) (hS : va_S A s.heap H locs) {ws : va_W} {a q27 t0 : Nat} {fs : List Value} {zt zf : Int32} {cA : ClassId} {f : Nat → Int32} (hP : va_P D vwCl ws H) (w1 : ws[26]? = some (a, .inr (2, fs))) (f0 : fs[0]? = some (.ref q27)) (f7 : fs[7]? = some (.int zt)) (f9 : fs[9]? = some (.int zf)) (b1 : 0 ≤ zf.toInt) (b2 : zt.toInt ≤ 160) (b3 : 0 ≤ zt.toInt) (b4 : zf.toInt ≤ 160) (w2 : ws[27]? = some (q27, .inl (cA, 160, .inl f))) (ht : tys[t0]? = some (cA, .int))
    (hl : lv_has ls 2 [(0, .ref a)]) (k1 : ∀ (z : Int32) (ls : Array Slot) (locs : List Loc), 0 ≤ z.toInt → z.toInt ≤ 7 → lv_has ls 2 [] → va_S A s.heap H locs → W p l e R s m args below meth c H locs cells slots Q (F0 m 20 ls [.int z])) (k2 : ∀ (z : Int32) (ls : Array Slot) (locs : List Loc), 0 ≤ z.toInt → z.toInt ≤ 7 → lv_has ls 2 [] → va_S A s.heap H locs → W p l e R s m args below meth c H locs cells slots Q (F0 m 29 ls [.int z])) : W p l e R s m args below meth c H locs cells slots Q (F0 m 0 ls []) := by
  have loop : ∀ (n j : Nat), j + n = 7 → ∀ (ls : Array Slot) (locs : List Loc), lv_has ls 2 [(1, .int (Int32.ofNat j)), (0, .ref a)] → va_S A s.heap H locs → W p l e R s m args below meth c H locs cells slots Q (F0 m 2 ls []) := by
    intro n
    induction n with
    | zero =>
      intro j hj ls locs hl hS
      have e7 : j = 7 := by omega
      subst e7
      refine lv_iload_n C.x C.b (by decide +kernel : decode cX2_wordRead 2 = .ok (.iload_n 1, 1)) rfl (lv_at hl 0 rfl) ?_
      refine lv_bipush C.x C.b (by decide +kernel : decode cX2_wordRead 3 = .ok (.bipush 7, 2)) (v := 7) rfl ?_
      refine lv_icmp_ge C.x C.b (by decide +kernel : decode cX2_wordRead 5 = .ok (.if_icmp .ge 22, 3)) (tgt := 27) (by decide) (fun _ => ?_) (fun h => absurd (by decide) h)
      refine lv_bipush C.x C.b (by decide +kernel : decode cX2_wordRead 27 = .ok (.bipush 7, 2)) (v := 7) rfl ?_
      exact k2 7 ls locs (by decide) (by decide) (lv_sub hl [] rfl) hS
    | succ n ih =>
      intro j hj ls locs hl hS
      have hi : j < 7 := by omega
      have hjI : (Int32.ofNat j).toInt = (j : Int) := nI_toInt (by omega)
      refine lv_iload_n C.x C.b (by decide +kernel : decode cX2_wordRead 2 = .ok (.iload_n 1, 1)) rfl (lv_at hl 0 rfl) ?_
      refine lv_bipush C.x C.b (by decide +kernel : decode cX2_wordRead 3 = .ok (.bipush 7, 2)) (v := 7) rfl ?_
      refine lv_icmp_ge C.x C.b (by decide +kernel : decode cX2_wordRead 5 = .ok (.if_icmp .ge 22, 3)) (tgt := 27) (by decide) (fun h => absurd h (nI_ge hi (by decide))) (fun _ => ?_)
      refine lv_aload_n C.x C.b (by decide +kernel : decode cX2_wordRead 8 = .ok (.aload_n 0, 1)) rfl (lv_at hl 1 rfl) ?_
      refine lv_iload_n C.x C.b (by decide +kernel : decode cX2_wordRead 9 = .ok (.iload_n 1, 1)) rfl (lv_at hl 0 rfl) ?_
      refine jd_S (M' := jm_sp) (n := 1) (As := [.int (Int32.ofNat j)]) (rest := [.ref a]) C hS (by omega) (by decide) (Nat.le_of_ble_eq_true rfl) jg_sp (by decide +kernel) (jd_sp l hi) rfl hl.1 rfl (by decide +kernel : decode cX2_wordRead 10 = .ok (.invokestatic 133, 3)) (fun v locs1 hv hS1 => ?_)
      subst hv
      refine jd_V (M' := jm_is) (n := 1) (As := [.ref (aK j)]) (rest := []) C hS1 (by omega) (by decide) (Nat.le_of_ble_eq_true rfl) jg_is (by decide +kernel) (va_recv C.K hP (q := (RX2, TX2, 11)) rfl w1) (jd_is l hi (by omega) hP w1 f0 f7 f9 b1 b2 b3 b4 w2 ht) rfl hl.1 rfl (by decide +kernel : decode cX2_wordRead 13 = .ok (.invokevirtual 137, 3)) (fun v locs2 hv hS2 => ?_)
      rcases hv with hv | hv
      · subst hv
        refine lv_if_eq C.x C.b (by decide +kernel : decode cX2_wordRead 16 = .ok (.ifCond .eq 5, 3)) (tgt := 21) (by decide) (fun _ => ?_) (fun h => absurd rfl h)
        refine lv_iinc C.x C.b (by decide +kernel : decode cX2_wordRead 21 = .ok (.iinc 1 1, 3)) hl (k := 0) rfl (v := Int32.ofNat (j + 1)) (nI_succ j).symm (by decide) (lv' := [(1, .int (Int32.ofNat (j + 1))), (0, .ref a)]) rfl (fun ls3 hl3 => ?_)
        refine lv_goto C.x C.b (by decide +kernel : decode cX2_wordRead 24 = .ok (.goto (-22), 3)) (tgt := 2) (by decide) ?_
        exact ih (j + 1) (by omega) ls3 locs2 hl3 hS2
      · subst hv
        refine lv_if_eq C.x C.b (by decide +kernel : decode cX2_wordRead 16 = .ok (.ifCond .eq 5, 3)) (tgt := 21) (by decide) (fun h => absurd h (by decide)) (fun _ => ?_)
        refine lv_iload_n C.x C.b (by decide +kernel : decode cX2_wordRead 19 = .ok (.iload_n 1, 1)) rfl (lv_at hl 0 rfl) ?_
        exact k1 _ ls locs2 (by omega) (by omega) (lv_sub hl [] rfl) hS2
  refine lv_iconst C.x C.b (by decide +kernel : decode cX2_wordRead 0 = .ok (.iconst 0, 1)) (v := 0) rfl ?_
  refine lv_istore_n C.x C.b (by decide +kernel : decode cX2_wordRead 1 = .ok (.istore_n 1, 1)) (i := 1) rfl hl (by decide) (lv' := [(1, .int 0), (0, .ref a)]) rfl (fun ls2 hl2 => ?_)
  exact loop 7 0 rfl ls2 locs hl2 hS
/-- .. as a walk that is known -/
theorem wr_known {TY : List ai_c} {WR : List (Nat × Nat × Nat)} {w0 : va_W} {ad : List Nat} {M : ai_m} {d : Nat} {p : Program} {l : Launch} {e : Env} {R : Room} {s : State} {m : MethodId} {args : Array Value} {below : List Frame} {meth : Method} {c : Code} {D : va_G} {tys : ai_ty} {A : Nat → Prop} {b L : Nat} {sx : Nat → Int32} {cells slots : Nat} {Q : State → Prop} {r0 : List Int} {st : ai_s} (C : ai_cx tb_m37 d p R s m args c D tys A b L sx cells slots) (h6 : 6 ≤ d) (h0 : st.1 = 0) (h1 : ai_get st.2.1 0 = some (0, 26, 0, 0)) (hs : st.2.2.1.isEmpty = true) (hn : Nat.blt 1 st.2.2.2.1.length = true)
    (k1 : ai_G tb_TY WR w0 ad tb_m37 p l e R s m args below meth c D tys A b L sx cells slots Q r0 (20, [], [(1, st.2.2.2.1.length, 0, 0)], ai_nu st.2.2.2.1 0 7, st.2.2.2.2.1, st.2.2.2.2.2))
    (k2 : ai_G tb_TY WR w0 ad tb_m37 p l e R s m args below meth c D tys A b L sx cells slots Q r0 (29, [], [(1, st.2.2.2.1.length, 0, 0)], ai_nu st.2.2.2.1 0 7, st.2.2.2.2.1, st.2.2.2.2.2)) : ai_G tb_TY WR w0 ad tb_m37 p l e R s m args below meth c D tys A b L sx cells slots Q r0 st := by
  intro r lv skc ws H locs ls hxx g hP hD hS hl
  obtain ⟨g1, g2, g3, g4, g5, g6, g7, g8⟩ := g
  obtain ⟨n0, x0, i0, j0⟩ := ai_get_ok g3 h1
  obtain ⟨aK, aV, hJ⟩ := C.2.2.2.2.2.1.2
  have C' : jd_C tb_m37 d p R s m args c D tys A aK aV cells slots := ⟨C.1, C.2.1, C.2.2.1, C.2.2.2.1, C.2.2.2.2.1, C.2.2.2.2.2.2.1, hJ, C.2.2.2.2.2.2.2.2.1.1, C.2.2.2.2.2.2.2.2.1.2.1, C.2.2.2.2.2.2.2.2.1.2.2.1, C.2.2.2.2.2.2.2.2.1.2.2.2⟩
  have hsk : skc = [] := by
    rw [List.isEmpty_iff.mp hs] at g4
    exact g4.nil
  subst hsk
  obtain ⟨a, e1, w1, v1, c1⟩ := g5.get (c := 26) rfl
  obtain ⟨q27, e2, w2, v2, c2⟩ := g5.get (c := 27) rfl
  rcases c1 with ⟨-, fs, rfl, -, hf⟩ | ⟨q, -⟩ | ⟨q, -⟩ | ⟨q, -⟩
  · rcases c2 with ⟨q, -⟩ | ⟨-, cA, f, rfl, ⟨t0, ht⟩, -⟩ | ⟨q, -⟩ | ⟨q, -⟩
    · exact absurd q (by decide)
    · obtain ⟨y0, f0, d0⟩ := hf 0 _ rfl
      obtain ⟨y7, f7, d7⟩ := hf 7 _ rfl
      obtain ⟨y9, f9, d9⟩ := hf 9 _ rfl
      obtain ⟨q0, z0, rfl⟩ := jd_fr d0 rfl
      obtain ⟨zt, rfl, t1, t2⟩ := jd_fi d7 rfl
      obtain ⟨zf, rfl, u1, u2⟩ := jd_fi d9 rfl
      have hq : q0 = q27 := Option.some.inj (z0.symm.trans v2)
      subst hq
      have hx0 : x0 = .ref a := by
        rcases j0 with ⟨-, q, q1, q2⟩ | ⟨q, -⟩ | ⟨q, -⟩ | ⟨q, -⟩ | ⟨q, -⟩
        · rw [q2, Option.some.inj (q1.symm.trans v1)]
        all_goals exact absurd q (by decide)
      subst hx0
      have hl' : lv_has ls 2 [(0, .ref a)] := ⟨hl.1, hl.2.1, fun q hq => by
        rcases List.mem_cons.mp hq with rfl | hq
        · exact lv_at hl n0 i0
        · cases hq⟩
      rw [h0]
      refine jd_wr C' h6 hS hP w1 f0 f7 f9 u1 t2 t1 u2 w2 ht hl' (fun z ls' locs' z1 z2 hl2 hS2 => ?_) (fun z ls' locs' z1 z2 hl2 hS2 => ?_)
      · exact k1 (r ++ [z.toInt]) [] [.int z] ws H locs' ls' (hxx.tr ai_x.push) ⟨g1.nu z1 z2, g2.mono ai_x.push, trivial, ⟨Or.inr (Or.inl ⟨rfl, _, _, ai_last g1.1, rfl, by show z.toInt = z.toInt + 0; omega⟩), trivial⟩, g5, g6.mono ai_x.push, g7, ai_sc1 ai_x.push (by rw [g1.1]; exact Nat.le_of_ble_eq_true hn) g8⟩ hP hD hS2 hl2
      · exact k2 (r ++ [z.toInt]) [] [.int z] ws H locs' ls' (hxx.tr ai_x.push) ⟨g1.nu z1 z2, g2.mono ai_x.push, trivial, ⟨Or.inr (Or.inl ⟨rfl, _, _, ai_last g1.1, rfl, by show z.toInt = z.toInt + 0; omega⟩), trivial⟩, g5, g6.mono ai_x.push, g7, ai_sc1 ai_x.push (by rw [g1.1]; exact Nat.le_of_ble_eq_true hn) g8⟩ hP hD hS2 hl2
    · exact absurd q (by decide)
    · exact absurd q (by decide)
  · exact absurd q (by decide)
  · exact absurd q (by decide)
  · exact absurd q (by decide)
theorem su_ok : ai_SU tb_K := by
  intro mid d cu st xs M hq hM w0 ad p l e R s m args below meth c D tys A b L sx cells slots Q r0 C k
  dsimp only at hq
  split at hq
  · rename_i hg
    rw [Bool.and_eq_true] at hg
    have hg0 := ai_beq.mp hg.1
    have hg6 := Nat.le_of_ble_eq_true hg.2
    have hq2 : tb_su mid st = some xs := hq
    clear hq
    unfold tb_su at hq2
    split at hq2
    · rename_i hm
      subst hm
      have hM' : M = tb_m150 := (Option.some.inj hM).symm
      subst hM'
      split at hq2
      · rename_i hc
        simp only [Bool.and_eq_true] at hc
        obtain ⟨⟨⟨⟨c0, c2⟩, c4⟩, cs⟩, cn⟩ := hc
        injection hq2 with hq2
        subst hq2
        exact lo_known (M := tb_m150) C hg0 c0 c2 c4 cs cn rfl (k _ (List.mem_singleton.mpr rfl))
      · cases hq2
    · split at hq2
      · rename_i hm
        subst hm
        have hM' : M = tb_m37 := (Option.some.inj hM).symm
        subst hM'
        split at hq2
        · rename_i hc
          simp only [Bool.and_eq_true, decide_eq_true_eq] at hc
          obtain ⟨⟨c0, cs⟩, cn⟩ := hc
          injection hq2 with hq2
          subst hq2
          exact wr_known (TY := tb_TY) (M := tb_m37) C hg6 hg0 c0 cs cn (k _ List.mem_cons_self) (k _ (List.mem_cons_of_mem _ (List.mem_singleton.mpr rfl)))
        · cases hq2
      · cases hq2
  · cases hq
end
section
/-! a walk that knows pieces of itself: (method, least depth, state, ends) -/
def mm_ev (a b : ai_v) : Bool := Nat.beq a.1 b.1 && Nat.beq a.2.1 b.2.1 && Nat.beq a.2.2.1 b.2.2.1 && decide (a.2.2.2 = b.2.2.2)
theorem mm_ev_ok {a b : ai_v} (h : mm_ev a b = true) : a = b := by
  obtain ⟨a1, a2, a3, a4⟩ := a
  obtain ⟨b1, b2, b3, b4⟩ := b
  simp only [mm_ev, Bool.and_eq_true, decide_eq_true_eq] at h
  obtain ⟨⟨⟨h1, h2⟩, h3⟩, rfl⟩ := h
  cases ai_beq.mp h1
  cases ai_beq.mp h2
  cases ai_beq.mp h3
  rfl
def mm_ee (a b : ai_e) : Bool := decide (a.1 = b.1) && decide (a.2.1 = b.2.1) && decide (a.2.2.1 = b.2.2.1) && Nat.beq a.2.2.2.1 b.2.2.2.1 && decide (a.2.2.2.2 = b.2.2.2.2)
theorem mm_ee_ok {a b : ai_e} (h : mm_ee a b = true) : a = b := by
  obtain ⟨a1, a2, a3, a4, a5⟩ := a
  obtain ⟨b1, b2, b3, b4, b5⟩ := b
  simp only [mm_ee, Bool.and_eq_true, decide_eq_true_eq] at h
  obtain ⟨⟨⟨⟨rfl, rfl⟩, rfl⟩, h4⟩, rfl⟩ := h
  cases ai_beq.mp h4
  rfl
def mm_ek (a b : ai_k) : Bool := Nat.beq a.1 b.1 && Nat.beq a.2.1 b.2.1 && mm_ev a.2.2 b.2.2
theorem mm_ek_ok {a b : ai_k} (h : mm_ek a b = true) : a = b := by
  obtain ⟨a1, a2, a3⟩ := a
  obtain ⟨b1, b2, b3⟩ := b
  simp only [mm_ek, Bool.and_eq_true] at h
  obtain ⟨⟨h1, h2⟩, h3⟩ := h
  cases ai_beq.mp h1
  cases ai_beq.mp h2
  cases mm_ev_ok h3
  rfl
def mm_eo (a b : Nat × ai_v) : Bool := Nat.beq a.1 b.1 && mm_ev a.2 b.2
theorem mm_eo_ok {a b : Nat × ai_v} (h : mm_eo a b = true) : a = b := by
  obtain ⟨a1, a2⟩ := a
  obtain ⟨b1, b2⟩ := b
  simp only [mm_eo, Bool.and_eq_true] at h
  cases ai_beq.mp h.1
  cases mm_ev_ok h.2
  rfl
def mm_eb (a b : ai_b) : Bool := Nat.beq a.1 b.1 && Nat.beq a.2.1 b.2.1 && Nat.beq a.2.2.1 b.2.2.1 && Nat.beq a.2.2.2.1 b.2.2.2.1 && decide (a.2.2.2.2 = b.2.2.2.2)
theorem mm_eb_ok {a b : ai_b} (h : mm_eb a b = true) : a = b := by
  obtain ⟨a1, a2, a3, a4, a5⟩ := a
  obtain ⟨b1, b2, b3, b4, b5⟩ := b
  simp only [mm_eb, Bool.and_eq_true, decide_eq_true_eq] at h
  obtain ⟨⟨⟨⟨h1, h2⟩, h3⟩, h4⟩, rfl⟩ := h
  cases ai_beq.mp h1
  cases ai_beq.mp h2
  cases ai_beq.mp h3
  cases ai_beq.mp h4
  rfl
def mm_el {α : Type} (f : α → α → Bool) : List α → List α → Bool
  | [], [] => true
  | a :: l, b :: m => f a b && mm_el f l m
  | _, _ => false
theorem mm_el_ok {α : Type} {f : α → α → Bool} (hf : ∀ {a b : α}, f a b = true → a = b) : ∀ {l m : List α}, mm_el f l m = true → l = m
  | [], [], _ => rfl
  | [], _ :: _, h => by cases h
  | _ :: _, [], h => by cases h
  | a :: l, b :: m, h => by
    simp only [mm_el, Bool.and_eq_true] at h
    rw [hf h.1, mm_el_ok hf h.2]
def mm_es (a b : ai_s) : Bool := Nat.beq a.1 b.1 && mm_el mm_eo a.2.1 b.2.1 && mm_el mm_ev a.2.2.1 b.2.2.1 && mm_el mm_ee a.2.2.2.1 b.2.2.2.1 && mm_el mm_ek a.2.2.2.2.1 b.2.2.2.2.1 && mm_el mm_eb a.2.2.2.2.2 b.2.2.2.2.2
theorem mm_es_ok {a b : ai_s} (h : mm_es a b = true) : a = b := by
  obtain ⟨a1, a2, a3, a4, a5, a6⟩ := a
  obtain ⟨b1, b2, b3, b4, b5, b6⟩ := b
  simp only [mm_es, Bool.and_eq_true] at h
  obtain ⟨⟨⟨⟨⟨h1, h2⟩, h3⟩, h4⟩, h5⟩, h6⟩ := h
  cases ai_beq.mp h1
  cases mm_el_ok mm_eo_ok h2
  cases mm_el_ok mm_ev_ok h3
  cases mm_el_ok mm_ee_ok h4
  cases mm_el_ok mm_ek_ok h5
  cases mm_el_ok mm_eb_ok h6
  rfl
abbrev mm_e : Type := Nat × Nat × ai_s × List ai_s
def mm_f (ms : List mm_e) (mid d : Nat) (st : ai_s) : Option (List ai_s) := (ms.find? fun e => Nat.beq e.2.2.1.1 st.1 && Nat.beq e.1 mid && Nat.ble e.2.1 d && mm_es e.2.2.1 st).map fun e => e.2.2.2
noncomputable def mm_b0 (K : ai_K) (ms : List mm_e) (rec : ai_R) : ai_R := fun mid M d cu st => match mm_f ms mid d st with
  | some xs => some xs
  | none => ai_body0 K rec mid M d cu st
noncomputable def mm_b (K : ai_K) (ms : List mm_e) (rec : ai_R) : ai_R := fun mid M d cu st => ai_norm st (mm_b0 K ms rec mid M d cu)
noncomputable def mm_x (ms : List mm_e) (n : Nat) : ai_R := Nat.rec (fun _ _ _ _ _ => none) (fun _ rec => mm_b tb_K ms rec) n
def mm_ok (e : mm_e) : Prop := ai_SR tb_TY tb_WR tb_MT (fun mid _ d _ st => if (Nat.beq e.1 mid && Nat.ble e.2.1 d && mm_es e.2.2.1 st) = true then some e.2.2.2 else none)
theorem mm_x_ok {ms : List mm_e} (hms : ∀ e ∈ ms, mm_ok e) : ∀ n, ai_SR tb_TY tb_WR tb_MT (mm_x ms n)
  | 0 => fun mid d cu st ys M hq => by cases hq
  | n + 1 => by
    intro mid d cu st ys M hq hM w0 ad p l e R s m args below meth c D tys A b L sx cells slots Q r0 C k
    have hq : mm_b tb_K ms (mm_x ms n) mid M d cu st = some ys := hq
    unfold mm_b at hq
    rw [ai_norm_eq] at hq
    unfold mm_b0 at hq
    split at hq
    · rename_i xs hx
      injection hq with hq
      subst hq
      unfold mm_f at hx
      obtain ⟨e1, he, rfl⟩ := Option.map_eq_some_iff.mp hx
      have h1 := List.find?_some he
      have h2 := List.mem_of_find?_eq_some he
      simp only [Bool.and_eq_true, decide_eq_true_eq] at h1
      exact hms e1 h2 mid d cu st _ M (if_pos (by simp only [Bool.and_eq_true]; exact ⟨⟨h1.1.1.2, h1.1.2⟩, h1.2⟩)) hM C k
    · exact ai_body_ok (K := tb_K) su_ok (mm_x_ok hms n) tv_MT mid d cu st ys M (by unfold ai_body; rw [ai_norm_eq]; exact hq) hM C k
theorem mm_cx {M : ai_m} {d d' : Nat} {p : Program} {R : Room} {s : State} {m : MethodId} {args : Array Value} {c : Code} {D : va_G} {tys : ai_ty} {A : Nat → Prop} {b L : Nat} {sx : Nat → Int32} {cells slots : Nat} (h : d' ≤ d) (C : ai_cx M d p R s m args c D tys A b L sx cells slots) : ai_cx M d' p R s m args c D tys A b L sx cells slots :=
  ⟨C.1, C.2.1, C.2.2.1, C.2.2.2.1, C.2.2.2.2.1, C.2.2.2.2.2.1, C.2.2.2.2.2.2.1, C.2.2.2.2.2.2.2.1, ⟨Nat.le_trans h C.2.2.2.2.2.2.2.2.1.1, Nat.le_trans (Nat.mul_le_mul_left 36 h) C.2.2.2.2.2.2.2.2.1.2.1, C.2.2.2.2.2.2.2.2.1.2.2⟩, C.2.2.2.2.2.2.2.2.2⟩
noncomputable def mm_c (ms : List mm_e) (cu : List Nat) (M : ai_m) (e : mm_e) : Bool := (mm_x ms 5000 e.1 M e.2.1 cu e.2.2.1).any fun xs => mm_el mm_es xs e.2.2.2
theorem mm_mk {ms : List mm_e} {cu : List Nat} {M : ai_m} {e : mm_e} (hms : ∀ e ∈ ms, mm_ok e) (hM : tb_MT[e.1]? = some M) (h : mm_c ms cu M e = true) : mm_ok e := by
  intro mid d cu' st ys M' hq hM' w0 ad p l en R s m args below meth c D tys A b L sx cells slots Q r0 C k
  dsimp only at hq
  split at hq
  · rename_i hc
    simp only [Bool.and_eq_true] at hc
    have hd := Nat.le_of_ble_eq_true hc.1.2
    have h3 := ai_beq.mp hc.1.1
    subst h3
    have h4 := mm_es_ok hc.2
    subst h4
    injection hq with hq
    subst hq
    rw [hM] at hM'
    injection hM' with hM'
    subst hM'
    unfold mm_c at h
    obtain ⟨xs, h1, h2⟩ := ai_anyE h
    have h2 := mm_el_ok mm_es_ok h2
    subst h2
    exact mm_x_ok hms 5000 e.1 e.2.1 cu e.2.2.1 _ M h1 hM (mm_cx hd C) k
  · cases hq
end
section
/-! methods walked by hand, over the walk of their rounds: skip -/
def hk (WR : List (Nat × Nat × Nat)) : ai_K := (tb_TY, WR, tb_MT, [], fun _ _ => none, [])
theorem hk_su {WR : List (Nat × Nat × Nat)} : ai_SU (hk WR) := by
  intro mid d cu st xs M h
  have h : (if (Nat.beq st.1 0 && Nat.ble (ai_gd mid) d) = true then (none : Option (List ai_s)) else none) = some xs := h
  split at h <;> cases h
def hG (M : ai_m) (p : Program) (l : Launch) (e : Env) (R : Room) (s : State) (m : MethodId) (args : Array Value) (below : List Frame) (meth : Method) (c : Code) (D : va_G) (A : Nat → Prop) (cells slots : Nat) (Q : State → Prop) (pc : Nat) (lv : List (Nat × Value)) (sk : List Value) (ws : va_W) : Prop :=
  ∀ (H : Heap) (locs : List Loc) (ls : Array Slot), va_P D vwCl ws H → va_D A ws → va_S A s.heap H locs → lv_has ls M.2.2.1 lv → W p l e R s m args below meth c H locs cells slots Q (F0 m pc ls sk)
section HND
variable {ad : List Nat} {M : ai_m} {d : Nat} {p : Program} {l : Launch} {e : Env} {R : Room} {s : State} {m : MethodId} {args : Array Value} {below : List Frame} {meth : Method} {c : Code} {D : va_G} {tys : ai_ty} {A : Nat → Prop} {b L : Nat} {sx : Nat → Int32} {cells slots : Nat} {Q : State → Prop}
/-- a stretch of a method, walked from a state that the world now stands for -/
theorem hseg {WR : List (Nat × Nat × Nat)} {n mid : Nat} {cu : List Nat} {st : ai_s} {xs : List ai_s} (h : ai_ex (hk WR) n mid M d cu st = some xs) (hM : tb_MT[mid]? = some M) (C : ai_cx M d p R s m args c D tys A b L sx cells slots) {r : List Int} {lv : List (Nat × Value)} {sk : List Value} {ws : va_W} (g : ai_gm tb_TY WR ws ad b L sx tys M.2.2.2.2.1 r st lv sk ws)
    (k : ∀ x ∈ xs, ∀ (r' : List Int) (lv' : List (Nat × Value)) (sk' : List Value) (ws' : va_W), ai_x r r' → ai_gm tb_TY WR ws ad b L sx tys M.2.2.2.2.1 r' x lv' sk' ws' → hG M p l e R s m args below meth c D A cells slots Q x.1 lv' sk' ws') : hG M p l e R s m args below meth c D A cells slots Q st.1 lv sk ws :=
  fun H locs ls hP hD hS hl => (ai_ex_ok (K := hk WR) hk_su tv_MT n) mid d cu st xs M h hM C (fun x hx r' lv' sk' ws' H' locs' ls' hx' g' hP' hD' hS' hl' => k x hx r' lv' sk' ws' hx' g' H' locs' ls' hP' hD' hS' hl') r lv sk ws H locs ls ai_x.rf g hP hD hS hl
end HND
theorem ai_fr.tr {WR : List (Nat × Nat × Nat)} {u v w : va_W} (h : ai_fr WR u v) (k : ai_fr WR v w) : ai_fr WR u w := fun c i x a b => k c i x a (h c i x a b)
/-- values of name 0 alone: constants and cells -/
def lo0 (v : ai_v) : Bool := Nat.beq v.1 0 || (Nat.beq v.1 1 && Nat.beq v.2.1 0)
theorem dv0 {ad : List Nat} {b : Nat} {r r' : List Int} {v : ai_v} {x : Value} (h : ai_dv ad b r v x) (h0 : r[0]? = some 0) (h0' : r'[0]? = some 0) (hv : lo0 v = true) : ai_dv ad b r' v x := by
  unfold lo0 at hv
  rw [Bool.or_eq_true, Bool.and_eq_true, ai_beq, ai_beq, ai_beq] at hv
  rcases h with h | ⟨h1, z, i, h2, h3, h4⟩ | ⟨h1, -⟩ | ⟨h1, -⟩ | ⟨h1, -⟩
  · exact Or.inl h
  · rcases hv with hv | hv
    · omega
    · rw [hv.2, h0] at h2
      cases h2
      exact Or.inr (Or.inl ⟨h1, 0, i, by rw [hv.2]; exact h0', h3, h4⟩)
  all_goals (exfalso; omega)
theorem lo0_ok {ad : List Nat} {b : Nat} {r r' : List Int} (h0 : r[0]? = some 0) (h0' : r'[0]? = some 0) : ∀ {lo : List (Nat × ai_v)} {lv : List (Nat × Value)}, (lo.all fun q => lo0 q.2) = true → ai_lo ad b r lo lv → ai_lo ad b r' lo lv
  | [], [], _, _ => trivial
  | [], _ :: _, _, h => h
  | _ :: _, [], _, h => h
  | q :: t, y :: u, hv, h => by
    rw [List.all_cons, Bool.and_eq_true] at hv
    exact ⟨h.1, dv0 h.2.1 h0 h0' hv.1, lo0_ok h0 h0' hv.2 h.2.2⟩
def sk_lo (j : Nat) : List (Nat × ai_v) := [(0, (0, 26, 0, 0)), (1, (1, 0, 0, fx_lo j)), (2, (1, 0, 0, fx_hi j))]
def sk_st (j : Nat) : ai_s := (0, sk_lo j, [], [(0, 0, false, 0, 0), (0, 2555, false, 1, 0), (0, 160, false, 2, 0), (0, 160, false, 3, 0)], [(26, 1, (1, 2, 0, 0)), (26, 7, (1, 3, 0, 0))], [])
def sk_WR : List (Nat × Nat × Nat) := [(26, 7, 8)]
/-- facts that a walk's end tells: (k, 3, 2, ..) of names 3 and 2; what row 27 has at name 3, within bounds -/
def sk_f (x : ai_s) (k : Nat) : Bool := x.2.2.2.2.2.any fun q => Nat.beq q.1 k && (Nat.beq q.2.1 3 && (Nat.beq q.2.2.1 2 && decide (q.2.2.2.2 = 0)))
def sk_g (x : ai_s) (f : ai_e → Bool) : Bool := x.2.2.2.2.2.any fun q => Nat.beq q.1 1027 && (Nat.beq q.2.1 3 && (decide (q.2.2.2.2 = 0) && (x.2.2.2.1[q.2.2.2.1]?).any f))
def sk_ok (j : Nat) (x : ai_s) : Bool := x.2.2.1.isEmpty &&
  ((Nat.beq x.1 50 && (decide (ai_lk x.2.2.2.2.1 26 7 = some (1, 3, 0, 0)) && (sk_f x 5 || (sk_f x 4 && sk_g x fun e => decide (e.2.1 < fx_lo j) || decide (fx_hi j < e.1))))) ||
   (Nat.beq x.1 47 && (decide (ai_lk x.2.2.2.2.1 26 7 = some (1, 3, 0, 1)) && (decide (x.2.1 = sk_lo j) && (sk_f x 4 && ((sk_g x fun e => decide (fx_lo j ≤ e.1)) && sk_g x fun e => decide (e.2.1 ≤ fx_hi j)))))))
noncomputable def sk_x (j : Nat) : Option (List ai_s) := ai_ex (hk sk_WR) 60 35 tb_m35 3 [47] (sk_st j)
theorem sk_r0 : ((sk_x 0).any fun xs => xs.all (sk_ok 0)) = true := by decide +kernel
theorem sk_r1 : ((sk_x 1).any fun xs => xs.all (sk_ok 1)) = true := by decide +kernel
theorem sk_r2 : ((sk_x 2).any fun xs => xs.all (sk_ok 2)) = true := by decide +kernel
theorem sk_run (j : Nat) (hj : j < 3) : ((sk_x j).any fun xs => xs.all (sk_ok j)) = true := by
  match j, hj with
  | 0, _ => exact sk_r0
  | 1, _ => exact sk_r1
  | 2, _ => exact sk_r2
  | j + 3, hj => exact absurd hj (by omega)
theorem sk_fok {w0 : va_W} {r : List Int} {x : ai_s} {zn zc : Int} (g2 : ai_sb w0 r x.2.2.2.2.2) (h3 : r[3]? = some zc) (h2 : r[2]? = some zn) : (sk_f x 5 = true → zn ≤ zc) ∧ (sk_f x 4 = true → zc < zn) := by
  refine ⟨fun h => ?_, fun h => ?_⟩
  · obtain ⟨q, hq, h⟩ := List.any_eq_true.mp h
    rw [Bool.and_eq_true, Bool.and_eq_true, Bool.and_eq_true, ai_beq, ai_beq, ai_beq, decide_eq_true_eq] at h
    obtain ⟨a1, a2, a3, a4⟩ := h
    obtain ⟨za, zb, zr, e1, e2, -, -, -, -, -, e5, -⟩ := g2 q hq
    rw [a2, h3] at e1
    rw [a3, h2] at e2
    cases e1
    cases e2
    have := e5 a1
    omega
  · obtain ⟨q, hq, h⟩ := List.any_eq_true.mp h
    rw [Bool.and_eq_true, Bool.and_eq_true, Bool.and_eq_true, ai_beq, ai_beq, ai_beq, decide_eq_true_eq] at h
    obtain ⟨a1, a2, a3, a4⟩ := h
    obtain ⟨za, zb, zr, e1, e2, -, -, -, -, e4, -⟩ := g2 q hq
    rw [a2, h3] at e1
    rw [a3, h2] at e2
    cases e1
    cases e2
    have := e4 a1
    omega
theorem sk_gok {w0 : va_W} {r : List Int} {x : ai_s} {zc t : Int} {f : ai_e → Bool} (g1 : ai_ok r x.2.2.2.1) (g2 : ai_sb w0 r x.2.2.2.2.2) (h3 : r[3]? = some zc) (ht : fx_o w0 27 zc.toNat = some t) (h : sk_g x f = true) : ∃ e : ai_e, f e = true ∧ e.1 ≤ t ∧ t ≤ e.2.1 := by
  obtain ⟨q, hq, h⟩ := List.any_eq_true.mp h
  rw [Bool.and_eq_true, Bool.and_eq_true, Bool.and_eq_true, ai_beq, ai_beq, decide_eq_true_eq] at h
  obtain ⟨a1, a2, a3, a4⟩ := h
  obtain ⟨za, zb, zr, e1, e2, e3, -, -, -, -, -, e9⟩ := g2 q hq
  obtain ⟨z1, z2, f1, f2, f3, f4⟩ := (e9 (by omega)).1 (by omega)
  rw [a2, h3] at f1
  cases f1
  rw [a1, a3, Int.add_zero, show 1027 - 1000 = 27 from rfl] at f4
  have f5 := f4 t ht
  subst f5
  obtain ⟨e, b1, b2, b3⟩ := ai_any g1 f2 a4
  exact ⟨e, b1, b2, b3⟩
theorem dvn {ad : List Nat} {b : Nat} {r : List Int} {n : Nat} {o z : Int} {x : Value} (h : ai_dv ad b r (1, n, 0, o) x) (hz : r[n]? = some z) : ∃ i : Int32, x = .int i ∧ i.toInt = z + o := by
  rcases h with ⟨q, -⟩ | ⟨-, y, i, q1, q2, q3⟩ | ⟨q, -⟩ | ⟨q, -⟩ | ⟨q, -⟩
  · exact absurd (id q : (1 : Nat) = 0) (by decide)
  · have q1 : r[n]? = some y := q1
    rw [hz] at q1
    cases q1
    exact ⟨i, q2, q3⟩
  · exact absurd (id q : (1 : Nat) = 2) (by decide)
  · exact absurd (id q : (1 : Nat) = 3) (by decide)
  · exact absurd (id q : (1 : Nat) = 4) (by decide)
/-- a row of ints of the world: what stands at a place -/
theorem sl_fx {ad : List Nat} {tys : ai_ty} {ws : va_W} {k n i : Nat} {pat : List ai_f} {j : Int32} (h : ai_wd tb_TY ad tys ws) (hT : tb_TY[k]? = some (1, n, pat)) (hs : ai_sl ws k i (.int j)) : fx_o ws k i = some j.toInt := by
  obtain ⟨a, e, h1, h2, h3⟩ := h.get hT
  rcases h3 with ⟨z, -⟩ | ⟨-, cA, f, rfl, -, -⟩ | ⟨z, -⟩ | ⟨z, -⟩
  · exact absurd (id z : (1 : Nat) = 0) (by decide)
  · obtain ⟨a', e', s1, s2⟩ := hs
    rw [h1] at s1
    cases s1
    rcases s2 with ⟨ci, fs, q, -⟩ | ⟨cA', n', f', q, q2, q3⟩
    · cases q
    · cases q
      cases q3
      exact fx_sl_o ⟨a, cA, n, f, h1, q2, rfl⟩
  · exact absurd (id z : (1 : Nat) = 3) (by decide)
  · exact absurd (id z : (1 : Nat) = 4) (by decide)
theorem fr_fx {ad : List Nat} {tys : ai_ty} {WR : List (Nat × Nat × Nat)} {ws ws' : va_W} {k n i : Nat} {pat : List ai_f} {t : Int} (h : ai_wd tb_TY ad tys ws') (hT : tb_TY[k]? = some (1, n, pat)) (hf : ai_fr WR ws ws') (hw : ai_wr WR k i i = false) (ht : fx_o ws k i = some t) : fx_o ws' k i = some t := by
  obtain ⟨j, j1, rfl⟩ := fx_o_sl ht
  exact sl_fx h hT (hf k i _ hw j1)
section SKP
variable {ad : List Nat} {p : Program} {l : Launch} {e : Env} {R : Room} {s : State} {m : MethodId} {args : Array Value} {below : List Frame} {meth : Method} {c : Code} {D : va_G} {tys : ai_ty} {A : Nat → Prop} {b L : Nat} {sx : Nat → Int32} {cells slots : Nat} {Q : State → Prop}
theorem sk_step {j : Nat} (hj : j < 3) (C : ai_cx tb_m35 3 p R s m args c D tys A b L sx cells slots) {ws : va_W} {zn zc : Int32} {g : Nat → Int} (hw : ai_wd tb_TY ad tys ws) (hn : ai_sl ws 26 1 (.int zn)) (hc : ai_sl ws 26 7 (.int zc)) (n0 : 0 ≤ zn.toInt) (n1 : zn.toInt ≤ 160) (c0 : 0 ≤ zc.toInt) (c1 : zc.toInt ≤ 160) (hg : ∀ i, i < 160 → fx_o ws 27 i = some (g i)) {lv : List (Nat × Value)} (hlv : ai_lo ad b [0] (sk_lo j) lv)
    (k1 : ∀ (ws' : va_W) (lv' : List (Nat × Value)), ai_wd tb_TY ad tys ws' → ai_fr sk_WR ws ws' → ai_sl ws' 26 7 (.int zc) → (zn.toInt.toNat ≤ zc.toInt.toNat ∨ g zc.toInt.toNat < fx_lo j ∨ fx_hi j < g zc.toInt.toNat) → hG tb_m35 p l e R s m args below meth c D A cells slots Q 50 lv' [] ws')
    (k2 : ∀ (ws' : va_W) (lv' : List (Nat × Value)) (zc' : Int32), ai_wd tb_TY ad tys ws' → ai_fr sk_WR ws ws' → ai_sl ws' 26 7 (.int zc') → zc'.toInt = zc.toInt + 1 → zc.toInt < zn.toInt → fx_lo j ≤ g zc.toInt.toNat → g zc.toInt.toNat ≤ fx_hi j → ai_lo ad b [0] (sk_lo j) lv' → hG tb_m35 p l e R s m args below meth c D A cells slots Q 47 lv' [] ws') : hG tb_m35 p l e R s m args below meth c D A cells slots Q 0 lv [] ws := by
  obtain ⟨xs, h1, h2⟩ := ai_anyE (sk_run j hj)
  have gm : ai_gm tb_TY sk_WR ws ad b L sx tys tb_m35.2.2.2.2.1 [0, 0, zn.toInt, zc.toInt] (sk_st j) lv [] ws := by
    refine ⟨⟨rfl, fun k z e hz he => ?_⟩, (fun q hq => by cases hq), lo0_ok (r := [0]) rfl rfl rfl hlv, trivial, hw, fun q hq => ?_, fun _ _ _ _ h => h, fun h => by cases h⟩
    · match k, hz, he with
      | 0, hz, he => cases hz; cases he; exact ⟨Int.le_refl _, Int.le_refl _, (fun h => by cases h), 0, rfl, Int.le_refl _⟩
      | 1, hz, he => cases hz; cases he; exact ⟨by decide, by decide, (fun h => by cases h), 0, rfl, Int.le_refl _⟩
      | 2, hz, he => cases hz; cases he; exact ⟨n0, n1, (fun h => by cases h), _, rfl, by show zn.toInt + 0 ≤ zn.toInt; omega⟩
      | 3, hz, he => cases hz; cases he; exact ⟨c0, c1, (fun h => by cases h), _, rfl, by show zc.toInt + 0 ≤ zc.toInt; omega⟩
      | k + 4, hz, he => cases hz
    · have hq : q ∈ [(26, 1, ((1, 2, 0, 0) : ai_v)), (26, 7, (1, 3, 0, 0))] := hq
      rcases List.mem_cons.mp hq with rfl | hq
      · exact ⟨_, hn, Or.inr (Or.inl ⟨rfl, _, _, rfl, rfl, by show zn.toInt = zn.toInt + 0; omega⟩)⟩
      · rcases List.mem_cons.mp hq with rfl | hq
        · exact ⟨_, hc, Or.inr (Or.inl ⟨rfl, _, _, rfl, rfl, by show zc.toInt = zc.toInt + 0; omega⟩)⟩
        · cases hq
  refine hseg (st := sk_st j) h1 rfl C gm (fun x hx r' lv' sk' ws' hx' g' => ?_)
  obtain ⟨g1, g2, g3, g4, g5, g6, g7, g8⟩ := g'
  have r0 : r'[0]? = some 0 := hx'.at rfl
  have r2 : r'[2]? = some zn.toInt := hx'.at rfl
  have r3 : r'[3]? = some zc.toInt := hx'.at rfl
  have hox := List.all_eq_true.mp h2 x hx
  unfold sk_ok at hox
  rw [Bool.and_eq_true, Bool.or_eq_true] at hox
  obtain ⟨hs, hox⟩ := hox
  have hsk : sk' = [] := by
    rw [List.isEmpty_iff.mp hs] at g4
    exact g4.nil
  subst hsk
  obtain ⟨f5, f4⟩ := sk_fok g2 r3 r2
  rcases hox with hox | hox
  · rw [Bool.and_eq_true, Bool.and_eq_true, ai_beq, decide_eq_true_eq, Bool.or_eq_true] at hox
    obtain ⟨p1, p2, p3⟩ := hox
    obtain ⟨x1, s1, d1⟩ := ai_lk_ok g6 p2
    obtain ⟨i, rfl, hi⟩ := dvn d1 r3
    have hii : i = zc := Int32.toInt_inj.mp (by rw [hi]; omega)
    subst hii
    rw [p1]
    refine k1 ws' lv' g5 g7 s1 ?_
    rcases p3 with p3 | p3
    · have := f5 p3
      exact Or.inl (by omega)
    · rw [Bool.and_eq_true] at p3
      have h4 := f4 p3.1
      obtain ⟨e0, b1, b2, b3⟩ := sk_gok g1 g2 r3 (hg _ (by omega)) p3.2
      rw [Bool.or_eq_true, decide_eq_true_eq, decide_eq_true_eq] at b1
      rcases b1 with b1 | b1
      · exact Or.inr (Or.inl (by omega))
      · exact Or.inr (Or.inr (by omega))
  · rw [Bool.and_eq_true, Bool.and_eq_true, Bool.and_eq_true, Bool.and_eq_true, Bool.and_eq_true, ai_beq, decide_eq_true_eq, decide_eq_true_eq] at hox
    obtain ⟨p1, p2, p3, p4, p5, p6⟩ := hox
    obtain ⟨x1, s1, d1⟩ := ai_lk_ok g6 p2
    obtain ⟨i, rfl, hi⟩ := dvn d1 r3
    have h4 := f4 p4
    obtain ⟨e0, b1, b2, b3⟩ := sk_gok g1 g2 r3 (hg _ (by omega)) p5
    obtain ⟨e1, b4, b5, b6⟩ := sk_gok g1 g2 r3 (hg _ (by omega)) p6
    rw [decide_eq_true_eq] at b1 b4
    rw [p1]
    refine k2 ws' lv' i g5 g7 s1 hi h4 (by omega) (by omega) (lo0_ok r0 rfl rfl (by rw [← p3]; exact g3))
theorem sk_loop {j : Nat} (hj : j < 3) (C : ai_cx tb_m35 3 p R s m args c D tys A b L sx cells slots) {zn : Int32} {g : Nat → Int} (n0 : 0 ≤ zn.toInt) (n1 : zn.toInt ≤ 160) :
    ∀ (N : Nat) (ws : va_W) (zc : Int32) (lv : List (Nat × Value)), (160 - zc.toInt).toNat < N → ai_wd tb_TY ad tys ws → ai_sl ws 26 1 (.int zn) → ai_sl ws 26 7 (.int zc) → 0 ≤ zc.toInt → zc.toInt ≤ 160 → (∀ i, i < 160 → fx_o ws 27 i = some (g i)) → ai_lo ad b [0] (sk_lo j) lv →
    (∀ (ws' : va_W) (lv' : List (Nat × Value)) (ze : Int32), ai_wd tb_TY ad tys ws' → ai_fr sk_WR ws ws' → ai_sl ws' 26 7 (.int ze) → 0 ≤ ze.toInt → ze.toInt ≤ 160 → ze.toInt.toNat = tp_skip g zn.toInt.toNat (fx_lo j) (fx_hi j) zc.toInt.toNat → hG tb_m35 p l e R s m args below meth c D A cells slots Q 50 lv' [] ws') → hG tb_m35 p l e R s m args below meth c D A cells slots Q 0 lv [] ws := by
  intro N
  induction N with
  | zero => exact fun ws zc lv h => absurd h (Nat.not_lt_zero _)
  | succ N ih =>
    intro ws zc lv hN hw hn hc c0 c1 hg hlv k
    refine sk_step hj C hw hn hc n0 n1 c0 c1 hg hlv (fun ws' lv' hw' hf hc' ho => ?_) (fun ws' lv' zc' hw' hf hc' e1 hlt a1 a2 hlv' => ?_)
    · refine k ws' lv' zc hw' hf hc' c0 c1 ?_
      rw [tp_skip_out]
      omega
    · intro H locs ls hP hD hS hl
      refine lv_goto (tgt := 0) C.1 C.2.1 (tv_m35.1.1.1 (47, .goto (-47), 3) (List.mem_of_getElem? (i := 25) rfl)) (by decide) ?_
      refine ih ws' zc' lv' (by omega) hw' (hf 26 1 _ (by decide) hn) hc' (by omega) (by omega) (fun i hi => fr_fx hw' (k := 27) rfl hf (by unfold ai_wr sk_WR; simp) (hg i hi)) hlv' (fun ws2 lv2 ze hw2 hf2 h7 e0 e2 e3 => ?_) H locs ls hP hD hS hl
      refine k ws2 lv2 ze hw2 (hf.tr hf2) h7 e0 e2 ?_
      rw [e3, tp_skip_in (p := zc.toInt.toNat) (by omega) a1 a2, show zc'.toInt.toNat = zc.toInt.toNat + 1 by omega]
end SKP
end
section
/-! skip as a known method, with its fact -/
theorem fx_has {ad : List Nat} {tys : ai_ty} {ws : va_W} {k n i : Nat} {pat : List ai_f} (h : ai_wd tb_TY ad tys ws) (hT : tb_TY[k]? = some (1, n, pat)) (hi : i < n) : ∃ t, fx_o ws k i = some t := by
  obtain ⟨a, e, h1, h2, h3⟩ := h.get hT
  rcases h3 with ⟨z, -⟩ | ⟨-, cA, f, rfl, -, -⟩ | ⟨z, -⟩ | ⟨z, -⟩
  · exact absurd (id z : (1 : Nat) = 0) (by decide)
  · exact ⟨_, fx_sl_o ⟨a, cA, n, f, h1, hi, rfl⟩⟩
  · exact absurd (id z : (1 : Nat) = 3) (by decide)
  · exact absurd (id z : (1 : Nat) = 4) (by decide)
theorem fx_g {ad : List Nat} {tys : ai_ty} {ws : va_W} (h : ai_wd tb_TY ad tys ws) : fx_tape ws (fx_at ws 27) := fun i hi => by
  obtain ⟨t, ht⟩ := fx_has (k := 27) h rfl hi
  unfold fx_at
  rw [ht]
  rfl
theorem tp_sk_congr {g g' : Nat → Int} {lo hi : Int} : ∀ (f p : Nat), (∀ i, p ≤ i → i < p + f → g i = g' i) → tp_sk g lo hi f p = tp_sk g' lo hi f p
  | 0, _, _ => rfl
  | f + 1, p, h => by
    show (if tp_i (g p) lo hi = true then tp_sk g lo hi f (p + 1) else p) = (if tp_i (g' p) lo hi = true then tp_sk g' lo hi f (p + 1) else p)
    rw [h p (Nat.le_refl _) (by omega), tp_sk_congr f (p + 1) (fun i h1 h2 => h i (by omega) (by omega))]
theorem tp_skip_congr {g g' : Nat → Int} {n p : Nat} {lo hi : Int} (h : ∀ i, i < n → g i = g' i) : tp_skip g n lo hi p = tp_skip g' n lo hi p := by
  unfold tp_skip
  exact tp_sk_congr _ _ (fun i h1 h2 => h i (by omega))
def nowr (WR : List (Nat × Nat × Nat)) (c : Nat) : Bool := !(WR.any fun q => Nat.beq q.1 c || Nat.beq q.1 1000)
theorem nowr_ok {WR : List (Nat × Nat × Nat)} {c : Nat} (h : nowr WR c = true) (i j : Nat) : ai_wr WR c i j = false := by
  unfold nowr at h
  rw [Bool.not_eq_true'] at h
  unfold ai_wr
  rw [List.any_eq_false]
  intro q hq hx
  have := List.any_eq_false.mp h q hq
  rw [Bool.or_eq_true, ai_beq, ai_beq] at this
  rw [Bool.and_eq_true, Bool.and_eq_true, Bool.or_eq_true, decide_eq_true_eq, decide_eq_true_eq] at hx
  exact this hx.1.1
/-- the tape of w0 is the tape now -/
theorem tape_now {ad : List Nat} {tys : ai_ty} {WR : List (Nat × Nat × Nat)} {w0 ws : va_W} {g : Nat → Int} (h : ai_wd tb_TY ad tys ws) (hf : ai_fr WR w0 ws) (hn : nowr WR 27 = true) (hg : fx_tape w0 g) : ∀ i, i < 160 → fx_at ws 27 i = g i := fun i hi => by
  have a := fr_fx (k := 27) h rfl hf (nowr_ok hn i i) (hg i hi)
  unfold fx_at
  rw [a]
  rfl
theorem kn_fr {ad : List Nat} {b : Nat} {r : List Int} {Z : List (Nat × Nat × Nat)} {ws ws' : va_W} {kn : List ai_k} (hf : ai_fr Z ws ws') (hk : ai_kn ad b r ws kn) (hz : ∀ q ∈ kn, ai_wr Z q.1 q.2.1 q.2.1 = false) : ai_kn ad b r ws' kn := fun q hq => by
  obtain ⟨x, h1, h2⟩ := hk q hq
  exact ⟨x, hf _ _ _ (hz q hq) h1, h2⟩
theorem wr1 {c i k j : Nat} (h : ¬ (k = c ∧ j = i)) (hc : c ≠ 1000) : ai_wr [(c, i, i + 1)] k j j = false := by
  unfold ai_wr
  rw [List.any_eq_false]
  intro q hq hx
  rw [List.mem_singleton.mp hq] at hx
  simp only [Bool.and_eq_true, Bool.or_eq_true, decide_eq_true_eq] at hx
  omega
theorem dr_out {kn : List ai_k} {c i : Nat} {q : ai_k} (h : q ∈ ai_dr kn c i i) : q ∈ kn ∧ ¬ (q.1 = c ∧ q.2.1 = i) := by
  unfold ai_dr at h
  obtain ⟨h1, h2⟩ := List.mem_filter.mp h
  refine ⟨h1, fun hc => ?_⟩
  rw [Bool.not_eq_true', Bool.and_eq_false_iff] at h2
  rcases h2 with h2 | h2
  · rw [ai_beq.mpr hc.1] at h2
    cases h2
  · rw [Bool.and_eq_false_iff] at h2
    rcases h2 with h2 | h2
    · rw [Nat.ble_eq_true_of_le (by omega)] at h2
      cases h2
    · rw [Nat.ble_eq_true_of_le (by omega)] at h2
      cases h2
def su_j (lo : List (Nat × ai_v)) : Option Nat := if decide (lo = sk_lo 0) = true then some 0 else if decide (lo = sk_lo 1) = true then some 1 else if decide (lo = sk_lo 2) = true then some 2 else none
theorem su_j_ok {lo : List (Nat × ai_v)} {j : Nat} (h : su_j lo = some j) : j < 3 ∧ lo = sk_lo j := by
  unfold su_j at h
  split at h
  · rename_i hd
    cases h
    exact ⟨by decide, decide_eq_true_eq.mp hd⟩
  · split at h
    · rename_i hd
      cases h
      exact ⟨by decide, decide_eq_true_eq.mp hd⟩
    · split at h
      · rename_i hd
        cases h
        exact ⟨by decide, decide_eq_true_eq.mp hd⟩
      · cases h
def su_sk (WR : List (Nat × Nat × Nat)) (st : ai_s) : Option (List ai_s) :=
  (ai_lk st.2.2.2.2.1 26 7).bind fun v => (ai_lk st.2.2.2.2.1 26 1).bind fun w => (su_j st.2.1).bind fun j =>
    if v.1 = 1 ∧ w.1 = 1 ∧ w.2.2.2 = 0 ∧ st.2.2.1 = [] ∧ ai_wr WR 26 7 7 = true ∧ nowr WR 27 = true ∧ ai_z st.2.2.2.1 = true then
      some [(50, [], [], st.2.2.2.1 ++ [(0, 160, false, v.2.1, v.2.2.2)], (26, 7, (1, st.2.2.2.1.length, 0, 0)) :: ai_dr st.2.2.2.2.1 26 7 7, (320 + j, v.2.1, w.2.1, st.2.2.2.1.length, v.2.2.2) :: st.2.2.2.2.2)] else none
theorem f267 {ad : List Nat} {tys : ai_ty} {ws : va_W} {i : Nat} {z : Int32} {lo hi : Int} (h : ai_wd tb_TY ad tys ws) (hs : ai_sl ws 26 i (.int z)) (hF : (tb_TY[26]?).bind (fun t => t.2.2[i]?) = some (1, 0, lo, hi)) : lo ≤ z.toInt ∧ z.toInt ≤ hi := by
  obtain ⟨a, e, h1, h2, h3⟩ := h.get (c := 26) rfl
  rcases h3 with ⟨-, fs, rfl, h4, h5⟩ | ⟨z, -⟩ | ⟨z, -⟩ | ⟨z, -⟩
  · obtain ⟨x, h6, h7⟩ := h5 i _ hF
    obtain ⟨a', e', s1, s2⟩ := hs
    rw [h1] at s1
    cases s1
    rcases s2 with ⟨ci, fs', q, q2⟩ | ⟨cA', n', f', q, q2, q3⟩
    · cases q
      rw [h6] at q2
      cases q2
      rcases h7 with ⟨z, -⟩ | ⟨-, j, q, b1, b2⟩ | ⟨z, -⟩
      · exact absurd (id z : (1 : Nat) = 0) (by decide)
      · cases q
        exact ⟨b1, b2⟩
      · exact absurd (id z : (1 : Nat) = 2) (by decide)
    · cases q
  · rcases z with z | z
    · exact absurd (id z : (0 : Nat) = 1) (by decide)
    · exact absurd (id z : (0 : Nat) = 2) (by decide)
  · exact absurd (id z : (0 : Nat) = 3) (by decide)
  · exact absurd (id z : (0 : Nat) = 4) (by decide)
theorem su_sk_ok {WR : List (Nat × Nat × Nat)} {d : Nat} {st : ai_s} {xs : List ai_s} (hq : su_sk WR st = some xs) (h0 : st.1 = 0) (hd : 3 ≤ d) {w0 : va_W} {ad : List Nat} {p : Program} {l : Launch} {e : Env} {R : Room} {s : State} {m : MethodId} {args : Array Value} {below : List Frame} {meth : Method} {c : Code} {D : va_G} {tys : ai_ty} {A : Nat → Prop} {b L : Nat} {sx : Nat → Int32} {cells slots : Nat} {Q : State → Prop} {r0 : List Int}
    (C : ai_cx tb_m35 d p R s m args c D tys A b L sx cells slots) (k : ∀ x ∈ xs, ai_G tb_TY WR w0 ad tb_m35 p l e R s m args below meth c D tys A b L sx cells slots Q r0 x) : ai_G tb_TY WR w0 ad tb_m35 p l e R s m args below meth c D tys A b L sx cells slots Q r0 st := by
  unfold su_sk at hq
  obtain ⟨v, v1, hq⟩ := Option.bind_eq_some_iff.mp hq
  obtain ⟨w, w1, hq⟩ := Option.bind_eq_some_iff.mp hq
  obtain ⟨j, j1, hq⟩ := Option.bind_eq_some_iff.mp hq
  obtain ⟨hj, hlo⟩ := su_j_ok j1
  split at hq
  · rename_i hc
    obtain ⟨c1, c2, c3, c4, c5, c6, c7⟩ := hc
    injection hq with hq
    subst hq
    intro r lv sk ws H locs ls hx g hP hD hS hl
    obtain ⟨g1, g2, g3, g4, g5, g6, g7, g8⟩ := g
    have hsk : sk = [] := by rw [c4] at g4; exact g4.nil
    subst hsk
    rw [h0]
    obtain ⟨x1, s1, d1⟩ := ai_lk_ok g6 v1
    obtain ⟨x2, s2, d2⟩ := ai_lk_ok g6 w1
    obtain ⟨zc, rfl⟩ : ∃ i : Int32, x1 = .int i := by
      rcases d1 with ⟨q, -⟩ | ⟨-, z, i, -, q2, -⟩ | ⟨q, -⟩ | ⟨q, -⟩ | ⟨q, -⟩
      · omega
      · exact ⟨i, q2⟩
      all_goals omega
    obtain ⟨zn, rfl⟩ : ∃ i : Int32, x2 = .int i := by
      rcases d2 with ⟨q, -⟩ | ⟨-, z, i, -, q2, -⟩ | ⟨q, -⟩ | ⟨q, -⟩ | ⟨q, -⟩
      · omega
      · exact ⟨i, q2⟩
      all_goals omega
    obtain ⟨za, a1, a2⟩ := ai_dv1 d1 c1
    obtain ⟨zb, b1, b2⟩ := ai_dv1 d2 c2
    rw [c3] at b2
    obtain ⟨e1, e2⟩ := f267 (i := 7) g5 s1 rfl
    obtain ⟨e3, e4⟩ := f267 (i := 1) g5 s2 rfl
    have r00 : r[0]? = some 0 := ai_z_ok g1 c7
    have hrl : r.length = st.2.2.2.1.length := g1.1
    refine sk_loop (g := fx_at ws 27) hj (mm_cx hd C) e3 e4 ((160 - zc.toInt).toNat + 1) ws zc lv (Nat.lt_succ_self _) g5 s2 s1 e1 e2 (fx_g g5) (lo0_ok r00 rfl rfl (by rw [← hlo]; exact g3)) (fun ws' lv' ze hw' hf h7 z0 z1 ez => ?_) H locs ls hP hD hS hl
    intro H' locs' ls' hP' hD' hS' hl'
    have hle := (tp_skip_le (g := fx_at ws 27) (n := zn.toInt.toNat) (p := zc.toInt.toNat) (lo := fx_lo j) (hi := fx_hi j)).1
    refine k _ (List.mem_singleton.mpr rfl) (r ++ [ze.toInt]) [] [] ws' H' locs' ls' (hx.tr ai_x.push) ⟨g1.push ⟨z0, z1, (fun h => by cases h), za, ai_x.push.at a1, by show za + v.2.2.2 ≤ ze.toInt; omega⟩, ?_, trivial, trivial, hw', ?_, ?_, fun h => by cases h⟩ hP' hD' hS' ⟨hl'.1, hl'.2.1, fun q hq => by cases hq⟩
    · intro q hq
      rcases List.mem_cons.mp hq with rfl | hq
      · refine ⟨za, zb, ze.toInt, ai_x.push.at a1, ai_x.push.at b1, ai_last g1.1, fun h => absurd (show 320 + j = 0 from h) (by omega), fun h => absurd (show 320 + j = 1 from h) (by omega), fun h => absurd (show 320 + j = 2 from h) (by omega), fun h => absurd (show 320 + j = 4 from h) (by omega), fun h => absurd (show 320 + j = 5 from h) (by omega), fun _ => ⟨fun h => absurd (show 1000 ≤ 320 + j from h) (by omega), fun h => absurd (show 320 + j < 300 ∨ (500 ≤ 320 + j ∧ 320 + j < 1000) from h) (by omega), fun g hg => ⟨fun _ h => absurd (show 320 + j < 305 from h) (by omega), fun _ h => absurd (show 320 + j < 318 from h) (by omega), fun _ _ => ⟨za, zb, ze.toInt, ai_x.push.at a1, ai_x.push.at b1, ai_last g1.1, by show 0 ≤ za + v.2.2.2; omega, z0, ?_⟩, fun h => absurd (show 400 ≤ 320 + j from h) (by omega), fun h => absurd (show 320 + j = 330 from h) (by omega)⟩, fun h => absurd (show 320 + j = 350 from h) (by omega)⟩⟩
        show ze.toInt.toNat = tp_skip g zb.toNat (fx_lo (320 + j - 320)) (fx_hi (320 + j - 320)) (za + v.2.2.2).toNat
        rw [Nat.add_sub_cancel_left, ez, ← a2, show zb = zn.toInt by omega]
        exact tp_skip_congr (fun i hi => tape_now g5 g7 c6 hg i (by omega))
      · exact g2.mono ai_x.push q hq
    · intro q hq
      rcases List.mem_cons.mp hq with rfl | hq
      · exact ⟨_, h7, Or.inr (Or.inl ⟨rfl, _, _, ai_last g1.1, rfl, by show ze.toInt = ze.toInt + 0; omega⟩)⟩
      · obtain ⟨q1, q2⟩ := dr_out hq
        obtain ⟨x, k1, k2⟩ := g6 q q1
        exact ⟨x, hf _ _ _ (wr1 (c := 26) (i := 7) q2 (by decide)) k1, k2.mono ai_x.push⟩
    · intro cc i x hwr hsl
      by_cases hci : cc = 26 ∧ i = 7
      · rw [hci.1, hci.2, c5] at hwr
        cases hwr
      · exact hf cc i x (wr1 (c := 26) (i := 7) hci (by decide)) (g7 cc i x hwr hsl)
  · cases hq
end
section
/-- a field, an element of a row: its int, within its kind's bounds -/
theorem pl_f {T : List ai_c} {ad : List Nat} {tys : ai_ty} {ws : va_W} {k ci i : Nat} {F : List ai_f} {lo hi : Int} (h : ai_wd T ad tys ws) (hT : T[k]? = some (0, ci, F)) (hF : F[i]? = some (1, 0, lo, hi)) : ∃ z : Int32, ai_sl ws k i (.int z) ∧ lo ≤ z.toInt ∧ z.toInt ≤ hi := by
  obtain ⟨a, e, h1, h2, h3⟩ := h.get hT
  rcases h3 with ⟨-, fs, rfl, h4, h5⟩ | ⟨z, -⟩ | ⟨z, -⟩ | ⟨z, -⟩
  · obtain ⟨x, h6, h7⟩ := h5 i _ hF
    rcases h7 with ⟨z, -⟩ | ⟨-, j, rfl, b1, b2⟩ | ⟨z, -⟩
    · exact absurd (id z : (1 : Nat) = 0) (by decide)
    · exact ⟨j, ⟨a, _, h1, Or.inl ⟨ci, fs, rfl, h6⟩⟩, b1, b2⟩
    · exact absurd (id z : (1 : Nat) = 2) (by decide)
  · rcases z with z | z
    · exact absurd (id z : (0 : Nat) = 1) (by decide)
    · exact absurd (id z : (0 : Nat) = 2) (by decide)
  · exact absurd (id z : (0 : Nat) = 3) (by decide)
  · exact absurd (id z : (0 : Nat) = 4) (by decide)
theorem pl_a {T : List ai_c} {ad : List Nat} {tys : ai_ty} {ws : va_W} {k n i a0 b0 : Nat} {pat : List ai_f} {lo hi : Int} (h : ai_wd T ad tys ws) (hT : T[k]? = some (1, n, pat)) (hi' : i < n) (hF : ai_pt pat i = some (a0, b0, lo, hi)) : ∃ z : Int32, ai_sl ws k i (.int z) ∧ lo ≤ z.toInt ∧ z.toInt ≤ hi := by
  obtain ⟨a, e, h1, h2, h3⟩ := h.get hT
  rcases h3 with ⟨z, -⟩ | ⟨-, cA, f, rfl, -, h5⟩ | ⟨z, -⟩ | ⟨z, -⟩
  · exact absurd (id z : (1 : Nat) = 0) (by decide)
  · obtain ⟨b1, b2⟩ := h5 i _ hi' hF
    exact ⟨f i, ⟨a, _, h1, Or.inr ⟨cA, n, f, rfl, hi', rfl⟩⟩, b1, b2⟩
  · exact absurd (id z : (1 : Nat) = 3) (by decide)
  · exact absurd (id z : (1 : Nat) = 4) (by decide)
/-! takeNumber, by hand over its walks -/
def tn_lo : List (Nat × ai_v) := [(0, (0, 26, 0, 0))]
def tn_WR : List (Nat × Nat × Nat) := [(26, 8, 9), (26, 10, 11)]
def tn_st : ai_s := (0, tn_lo, [], [(0, 0, false, 0, 0), (0, 2555, false, 1, 0), (0, 160, false, 2, 0), (0, 160, false, 3, 0)], [(26, 9, (1, 2, 0, 0)), (26, 7, (1, 3, 0, 0))], [])
def tn_d (x : ai_s) (f : ai_e → Bool) : Bool := x.2.2.2.2.2.any fun q => Nat.beq q.1 0 && (Nat.beq q.2.1 3 && (Nat.beq q.2.2.1 2 && (decide (q.2.2.2.2 = 0) && (x.2.2.2.1[q.2.2.2.1]?).any f)))
def tn_ok (x : ai_s) : Bool := x.2.2.1.isEmpty && ((Nat.beq x.1 18 && (decide (ai_lk x.2.2.2.2.1 26 8 = some (1, 0, 0, 4)) && tn_d x fun e => decide (3 ≤ e.1))) || (Nat.beq x.1 19 && (decide (x.2.1 = tn_lo) && tn_d x fun e => decide (e.2.1 ≤ 2))))
theorem tn_r : ((ai_ex (hk tn_WR) 60 36 tb_m36 3 [19] tn_st).any fun xs => xs.all tn_ok) = true := by decide +kernel
/-- one figure, two figures -/
def ta_st (k : Nat) : ai_s := (19, tn_lo, [], [(0, 0, false, 0, 0), (0, 2555, false, 1, 0), (0, 160 - (k : Int), false, 2, 0)], [(26, 9, (1, 2, 0, 0)), (26, 7, (1, 2, 0, (k : Int)))], [])
def ta_g (x : ai_s) (n : Nat) (o : Int) : Bool := x.2.2.2.2.2.any fun q => Nat.beq q.1 1027 && (Nat.beq q.2.1 2 && (Nat.beq q.2.2.2.1 n && decide (q.2.2.2.2 = o)))
def ta_m (x : ai_s) (v m : Nat) : Bool := x.2.2.2.2.2.any fun q => Nat.beq q.1 510 && (Nat.beq q.2.1 v && (Nat.beq q.2.2.2.1 m && decide (q.2.2.2.2 = -48)))
def ta_1 (x : ai_s) : Bool := x.2.2.1.isEmpty && (Nat.beq x.1 69 && (decide (ai_lk x.2.2.2.2.1 26 8 = some (1, 0, 0, 2)) && (ai_lk x.2.2.2.2.1 26 10).any fun v => decide (v = (1, v.2.1, 0, -48)) && ta_g x v.2.1 0))
def ta_2 (x : ai_s) : Bool := x.2.2.1.isEmpty && (Nat.beq x.1 69 && (decide (ai_lk x.2.2.2.2.1 26 8 = some (1, 0, 0, 2)) && (ai_lk x.2.2.2.2.1 26 10).any fun v => decide (v = (1, v.2.1, 0, -48)) && x.2.2.2.2.2.any fun q => Nat.beq q.1 1 && (Nat.beq q.2.2.2.1 v.2.1 && (decide (q.2.2.2.2 = 0) && (ta_g x q.2.2.1 1 && (((x.2.2.2.1[q.2.2.2.1]?).any fun e => decide (-1000 ≤ e.1) && decide (e.2.1 ≤ 1000)) && x.2.2.2.2.2.any fun q' => Nat.beq q'.1 1027 && (ta_g x q'.2.2.2.1 0 && ta_m x q'.2.2.2.1 q.2.1)))))))
theorem ta_r1 : ((ai_ex (hk tn_WR) 200 36 tb_m36 3 [] (ta_st 1)).any fun xs => xs.all ta_1) = true := by decide +kernel
theorem ta_r2 : ((ai_ex (hk tn_WR) 200 36 tb_m36 3 [] (ta_st 2)).any fun xs => xs.all ta_2) = true := by decide +kernel
theorem kn1 {ad : List Nat} {b : Nat} {r : List Int} {ws : va_W} {k i n : Nat} {o t : Int} {z : Int32} (h : ai_sl ws k i (.int z)) (hr : r[n]? = some t) (hz : z.toInt = t + o) : ∃ x, ai_sl ws k i x ∧ ai_dv ad b r (1, n, 0, o) x := ⟨_, h, Or.inr (Or.inl ⟨rfl, t, z, hr, rfl, hz⟩)⟩
theorem ta_gok {w0 : va_W} {r : List Int} {x : ai_s} {n : Nat} {o zf t : Int} (g2 : ai_sb w0 r x.2.2.2.2.2) (h2 : r[2]? = some zf) (ht : fx_o w0 27 (zf + o).toNat = some t) (h : ta_g x n o = true) : r[n]? = some t := by
  obtain ⟨q, hq, h⟩ := List.any_eq_true.mp h
  rw [Bool.and_eq_true, Bool.and_eq_true, Bool.and_eq_true, ai_beq, ai_beq, ai_beq, decide_eq_true_eq] at h
  obtain ⟨a1, a2, a3, a4⟩ := h
  obtain ⟨za, zb, zr, e1, e2, e3, -, -, -, -, -, e9⟩ := g2 q hq
  obtain ⟨z1, z2, f1, f2, f3, f4⟩ := (e9 (by omega)).1 (by omega)
  rw [a2, h2] at f1
  cases f1
  rw [a1, a4, show 1027 - 1000 = 27 from rfl] at f4
  rw [← a3, f2, f4 t ht]
theorem ta_mok {w0 : va_W} {r : List Int} {x : ai_s} {v m : Nat} (g2 : ai_sb w0 r x.2.2.2.2.2) (h : ta_m x v m = true) : ∃ za zr : Int, r[v]? = some za ∧ r[m]? = some zr ∧ zr = 10 * (za - 48) := by
  obtain ⟨q, hq, h⟩ := List.any_eq_true.mp h
  rw [Bool.and_eq_true, Bool.and_eq_true, Bool.and_eq_true, ai_beq, ai_beq, ai_beq, decide_eq_true_eq] at h
  obtain ⟨a1, a2, a3, a4⟩ := h
  obtain ⟨za, zb, zr, e1, e2, e3, -, -, -, -, -, e9⟩ := g2 q hq
  obtain ⟨z1, z2, f1, f2, -, -, f5, -⟩ := (e9 (by omega)).2.1 (by omega)
  have f6 := f5 (by omega)
  rw [a1, a4] at f6
  refine ⟨z1, z2, by rw [← a2]; exact f1, by rw [← a3]; exact f2, ?_⟩
  rw [f6, show ((510 - 500 : Nat) : Int) = 10 from rfl]
  rfl
theorem tn_dok {w0 : va_W} {r : List Int} {x : ai_s} {zf ze : Int} {f : ai_e → Bool} (g1 : ai_ok r x.2.2.2.1) (g2 : ai_sb w0 r x.2.2.2.2.2) (h2 : r[2]? = some zf) (h3 : r[3]? = some ze) (h : tn_d x f = true) : ∃ e : ai_e, f e = true ∧ e.1 ≤ ze - zf ∧ ze - zf ≤ e.2.1 := by
  obtain ⟨q, hq, h⟩ := List.any_eq_true.mp h
  rw [Bool.and_eq_true, Bool.and_eq_true, Bool.and_eq_true, Bool.and_eq_true, ai_beq, ai_beq, ai_beq, decide_eq_true_eq] at h
  obtain ⟨a1, a2, a3, a4, a5⟩ := h
  obtain ⟨za, zb, zr, e1, e2, e3, e4, -⟩ := g2 q hq
  rw [a2, h3] at e1
  rw [a3, h2] at e2
  cases e1
  cases e2
  have e5 := e4 a1
  obtain ⟨e, b1, b2, b3⟩ := ai_any g1 e3 a5
  exact ⟨e, b1, by omega, by omega⟩
def tz_st : ai_s := (19, tn_lo, [], [(0, 0, false, 0, 0), (0, 2555, false, 1, 0), (0, 160, false, 2, 0), (0, 160, false, 3, 0)], [(26, 9, (1, 2, 0, 0)), (26, 7, (1, 3, 0, 0))], [])
def tz_ok (x : ai_s) : Bool := x.2.2.1.isEmpty && ((Nat.beq x.1 69 && (decide (ai_lk x.2.2.2.2.1 26 8 = some (1, 0, 0, 2)) && decide (ai_lk x.2.2.2.2.1 26 10 = some (1, 0, 0, 0)))) || (Nat.beq x.1 42 && x.2.2.2.2.2.any fun q => Nat.beq q.1 4 && (Nat.beq q.2.1 2 && (Nat.beq q.2.2.1 3 && decide (q.2.2.2.2 = 0)))))
theorem tz_r : ((ai_ex (hk tn_WR) 60 36 tb_m36 3 [42] tz_st).any fun xs => xs.all tz_ok) = true := by decide +kernel
section TNS
variable {ad : List Nat} {p : Program} {l : Launch} {e : Env} {R : Room} {s : State} {m : MethodId} {args : Array Value} {below : List Frame} {meth : Method} {c : Code} {D : va_G} {tys : ai_ty} {A : Nat → Prop} {b L : Nat} {sx : Nat → Int32} {cells slots : Nat} {Q : State → Prop}
theorem tn_fig {k : Nat} (hk : k = 1 ∨ k = 2) (C : ai_cx tb_m36 3 p R s m args c D tys A b L sx cells slots) {ws : va_W} {zf ze : Int32} {g : Nat → Int} (hw : ai_wd tb_TY ad tys ws) (hf : ai_sl ws 26 9 (.int zf)) (he : ai_sl ws 26 7 (.int ze)) (f0 : 0 ≤ zf.toInt) (e1 : ze.toInt ≤ 160) (hlt : ze.toInt = zf.toInt + (k : Int)) (hg : ∀ i, i < 160 → fx_o ws 27 i = some (g i)) {lv : List (Nat × Value)} (hlv : ai_lo ad b [0] tn_lo lv)
    (k2 : ∀ (ws' : va_W) (lv' : List (Nat × Value)) (zv : Int32), ai_wd tb_TY ad tys ws' → ai_fr tn_WR ws ws' → ai_sl ws' 26 8 (.int 2) → ai_sl ws' 26 10 (.int zv) → zv.toInt = tp_num g zf.toInt.toNat ze.toInt.toNat → hG tb_m36 p l e R s m args below meth c D A cells slots Q 69 lv' [] ws') : hG tb_m36 p l e R s m args below meth c D A cells slots Q 19 lv [] ws := by
  have gm : ai_gm tb_TY tn_WR ws ad b L sx tys tb_m36.2.2.2.2.1 [0, 0, zf.toInt] (ta_st k) lv [] ws := by
    refine ⟨⟨rfl, fun n z e hz he => ?_⟩, (fun q hq => by cases hq), lo0_ok (r := [0]) rfl rfl rfl hlv, trivial, hw, fun q hq => ?_, fun _ _ _ _ h => h, fun h => by cases h⟩
    · match n, hz, he with
      | 0, hz, he => cases hz; cases he; exact ⟨Int.le_refl _, Int.le_refl _, (fun h => by cases h), 0, rfl, Int.le_refl _⟩
      | 1, hz, he => cases hz; cases he; exact ⟨by decide, by decide, (fun h => by cases h), 0, rfl, Int.le_refl _⟩
      | 2, hz, he => cases hz; cases he; exact ⟨f0, by show zf.toInt ≤ 160 - (k : Int); omega, (fun h => by cases h), _, rfl, by show zf.toInt + 0 ≤ zf.toInt; omega⟩
      | n + 3, hz, he => cases hz
    · have hq : q ∈ [(26, 9, ((1, 2, 0, 0) : ai_v)), (26, 7, (1, 2, 0, (k : Int)))] := hq
      rcases List.mem_cons.mp hq with rfl | hq
      · exact kn1 hf (n := 2) (t := zf.toInt) rfl (by omega)
      · rcases List.mem_cons.mp hq with rfl | hq
        · exact kn1 he (n := 2) (t := zf.toInt) rfl hlt
        · cases hq
  rcases hk with rfl | rfl
  · obtain ⟨xs, h1, h2⟩ := ai_anyE ta_r1
    refine hseg (st := ta_st 1) h1 rfl C gm (fun x hx r' lv' sk' ws' hx' g' => ?_)
    obtain ⟨g1, g2, g3, g4, g5, g6, g7, g8⟩ := g'
    have r0 : r'[0]? = some 0 := hx'.at rfl
    have r2 : r'[2]? = some zf.toInt := hx'.at rfl
    have hox := List.all_eq_true.mp h2 x hx
    unfold ta_1 at hox
    rw [Bool.and_eq_true, Bool.and_eq_true, Bool.and_eq_true, ai_beq, decide_eq_true_eq] at hox
    obtain ⟨hs, p1, p2, p3⟩ := hox
    have hsk : sk' = [] := by
      rw [List.isEmpty_iff.mp hs] at g4
      exact g4.nil
    subst hsk
    obtain ⟨v, v1, v2⟩ := ai_anyE p3
    rw [Bool.and_eq_true, decide_eq_true_eq] at v2
    obtain ⟨x1, s1, d1⟩ := ai_lk_ok g6 p2
    obtain ⟨i, rfl, hi⟩ := dvn d1 r0
    have hii : i = 2 := Int32.toInt_inj.mp (by rw [hi]; rfl)
    subst hii
    obtain ⟨x2, s2, d2⟩ := ai_lk_ok g6 v1
    have rv := ta_gok (t := g zf.toInt.toNat) g2 r2 (by rw [Int.add_zero]; exact hg _ (by omega)) v2.2
    rw [v2.1] at d2
    obtain ⟨zv, rfl, hv⟩ := dvn d2 rv
    rw [p1]
    refine k2 ws' lv' zv g5 g7 s1 s2 ?_
    unfold tp_num
    rw [if_neg (by omega), if_pos (by omega), hv]
    omega
  · obtain ⟨xs, h1, h2⟩ := ai_anyE ta_r2
    refine hseg (st := ta_st 2) h1 rfl C gm (fun x hx r' lv' sk' ws' hx' g' => ?_)
    obtain ⟨g1, g2, g3, g4, g5, g6, g7, g8⟩ := g'
    have r0 : r'[0]? = some 0 := hx'.at rfl
    have r2 : r'[2]? = some zf.toInt := hx'.at rfl
    have hox := List.all_eq_true.mp h2 x hx
    unfold ta_2 at hox
    rw [Bool.and_eq_true, Bool.and_eq_true, Bool.and_eq_true, ai_beq, decide_eq_true_eq] at hox
    obtain ⟨hs, p1, p2, p3⟩ := hox
    have hsk : sk' = [] := by
      rw [List.isEmpty_iff.mp hs] at g4
      exact g4.nil
    subst hsk
    obtain ⟨v, v1, v2⟩ := ai_anyE p3
    rw [Bool.and_eq_true, decide_eq_true_eq] at v2
    obtain ⟨v2, v3⟩ := v2
    obtain ⟨q, hq, v3⟩ := List.any_eq_true.mp v3
    rw [Bool.and_eq_true, Bool.and_eq_true, Bool.and_eq_true, Bool.and_eq_true, Bool.and_eq_true, ai_beq, ai_beq, decide_eq_true_eq] at v3
    obtain ⟨q1, q2, q3, q4, q5, q6⟩ := v3
    obtain ⟨q', -, q6⟩ := List.any_eq_true.mp q6
    rw [Bool.and_eq_true, Bool.and_eq_true] at q6
    obtain ⟨-, q7, q8⟩ := q6
    obtain ⟨x1, s1, d1⟩ := ai_lk_ok g6 p2
    obtain ⟨i, rfl, hi⟩ := dvn d1 r0
    have hii : i = 2 := Int32.toInt_inj.mp (by rw [hi]; rfl)
    subst hii
    obtain ⟨x2, s2, d2⟩ := ai_lk_ok g6 v1
    have rv := ta_gok (t := g zf.toInt.toNat) g2 r2 (by rw [Int.add_zero]; exact hg _ (by omega)) q7
    have rw' := ta_gok (t := g (zf.toInt.toNat + 1)) g2 r2 (by rw [show (zf.toInt + 1).toNat = zf.toInt.toNat + 1 by omega]; exact hg _ (by omega)) q4
    obtain ⟨za, zm, m1, m2, m3⟩ := ta_mok g2 q8
    rw [rv] at m1
    cases m1
    obtain ⟨ya, yb, yr, y1, y2, y3, -, y4, -⟩ := g2 q hq
    have y5 := y4 q1
    rw [m2] at y1
    cases y1
    rw [rw'] at y2
    cases y2
    rw [q3] at y5
    obtain ⟨e0, b1, b2, b3⟩ := ai_any g1 y3 q5
    rw [Bool.and_eq_true, decide_eq_true_eq, decide_eq_true_eq] at b1
    rw [v2] at d2
    obtain ⟨zv, rfl, hv⟩ := dvn d2 (by rw [← q2]; exact y3)
    rw [p1]
    refine k2 ws' lv' zv g5 g7 s1 s2 ?_
    have b27 : ∀ i, i < 160 → 0 ≤ g i ∧ g i ≤ 127 := fun i hi => by
      obtain ⟨j, j1, j2⟩ := fx_o_sl (hg i hi)
      obtain ⟨z, z1, z2, z3⟩ := pl_a (k := 27) (n := 160) (pat := [(1, 0, 0, 127)]) (lo := 0) (hi := 127) (a0 := 1) (b0 := 0) (i := i) hw rfl hi (by show ([(1, 0, 0, 127)] : List ai_f)[i % 1]? = _; rw [Nat.mod_one]; rfl)
      have := j1.fun z1
      cases this
      omega
    have c1 := b27 zf.toInt.toNat (by omega)
    have c2 := b27 (zf.toInt.toNat + 1) (by omega)
    unfold tp_num
    rw [if_neg (by omega), if_neg (by omega), hv]
    omega
theorem tn_zero (C : ai_cx tb_m36 3 p R s m args c D tys A b L sx cells slots) {ws : va_W} {zf ze : Int32} (hw : ai_wd tb_TY ad tys ws) (hf : ai_sl ws 26 9 (.int zf)) (he : ai_sl ws 26 7 (.int ze)) (f0 : 0 ≤ zf.toInt) (f1 : zf.toInt ≤ 160) (e0 : 0 ≤ ze.toInt) (e1 : ze.toInt ≤ 160) (hle : ze.toInt ≤ zf.toInt) {lv : List (Nat × Value)} (hlv : ai_lo ad b [0] tn_lo lv)
    (k2 : ∀ (ws' : va_W) (lv' : List (Nat × Value)) (zv : Int32), ai_wd tb_TY ad tys ws' → ai_fr tn_WR ws ws' → ai_sl ws' 26 8 (.int 2) → ai_sl ws' 26 10 (.int zv) → zv.toInt = 0 → hG tb_m36 p l e R s m args below meth c D A cells slots Q 69 lv' [] ws') : hG tb_m36 p l e R s m args below meth c D A cells slots Q 19 lv [] ws := by
  have gm : ai_gm tb_TY tn_WR ws ad b L sx tys tb_m36.2.2.2.2.1 [0, 0, zf.toInt, ze.toInt] tz_st lv [] ws := by
    refine ⟨⟨rfl, fun n z e hz he => ?_⟩, (fun q hq => by cases hq), lo0_ok (r := [0]) rfl rfl rfl hlv, trivial, hw, fun q hq => ?_, fun _ _ _ _ h => h, fun h => by cases h⟩
    · match n, hz, he with
      | 0, hz, he => cases hz; cases he; exact ⟨Int.le_refl _, Int.le_refl _, (fun h => by cases h), 0, rfl, Int.le_refl _⟩
      | 1, hz, he => cases hz; cases he; exact ⟨by decide, by decide, (fun h => by cases h), 0, rfl, Int.le_refl _⟩
      | 2, hz, he => cases hz; cases he; exact ⟨f0, f1, (fun h => by cases h), _, rfl, by show zf.toInt + 0 ≤ zf.toInt; omega⟩
      | 3, hz, he => cases hz; cases he; exact ⟨e0, e1, (fun h => by cases h), _, rfl, by show ze.toInt + 0 ≤ ze.toInt; omega⟩
      | n + 4, hz, he => cases hz
    · have hq : q ∈ [(26, 9, ((1, 2, 0, 0) : ai_v)), (26, 7, (1, 3, 0, 0))] := hq
      rcases List.mem_cons.mp hq with rfl | hq
      · exact kn1 hf (n := 2) (t := zf.toInt) rfl (by omega)
      · rcases List.mem_cons.mp hq with rfl | hq
        · exact kn1 he (n := 3) (t := ze.toInt) rfl (by omega)
        · cases hq
  obtain ⟨xs, h1, h2⟩ := ai_anyE tz_r
  refine hseg (st := tz_st) h1 rfl C gm (fun x hx r' lv' sk' ws' hx' g' => ?_)
  obtain ⟨g1, g2, g3, g4, g5, g6, g7, g8⟩ := g'
  have r0 : r'[0]? = some 0 := hx'.at rfl
  have r2 : r'[2]? = some zf.toInt := hx'.at rfl
  have r3 : r'[3]? = some ze.toInt := hx'.at rfl
  have hox := List.all_eq_true.mp h2 x hx
  unfold tz_ok at hox
  rw [Bool.and_eq_true, Bool.or_eq_true] at hox
  obtain ⟨hs, hox⟩ := hox
  have hsk : sk' = [] := by
    rw [List.isEmpty_iff.mp hs] at g4
    exact g4.nil
  subst hsk
  rcases hox with hox | hox
  · rw [Bool.and_eq_true, Bool.and_eq_true, ai_beq, decide_eq_true_eq, decide_eq_true_eq] at hox
    obtain ⟨p1, p2, p3⟩ := hox
    obtain ⟨x1, s1, d1⟩ := ai_lk_ok g6 p2
    obtain ⟨i, rfl, hi⟩ := dvn d1 r0
    have hii : i = 2 := Int32.toInt_inj.mp (by rw [hi]; rfl)
    subst hii
    obtain ⟨x2, s2, d2⟩ := ai_lk_ok g6 p3
    obtain ⟨j, rfl, hj⟩ := dvn d2 r0
    rw [p1]
    exact k2 ws' lv' j g5 g7 s1 s2 (by rw [hj]; rfl)
  · rw [Bool.and_eq_true, ai_beq] at hox
    obtain ⟨q, hq, h⟩ := List.any_eq_true.mp hox.2
    rw [Bool.and_eq_true, Bool.and_eq_true, Bool.and_eq_true, ai_beq, ai_beq, ai_beq, decide_eq_true_eq] at h
    obtain ⟨a1, a2, a3, a4⟩ := h
    obtain ⟨za, zb, zr, y1, y2, -, -, -, -, y4, -⟩ := g2 q hq
    rw [a2, r2] at y1
    rw [a3, r3] at y2
    cases y1
    cases y2
    have := y4 a1
    omega
theorem tn_all (C : ai_cx tb_m36 3 p R s m args c D tys A b L sx cells slots) {ws : va_W} {zf ze : Int32} {g : Nat → Int} (hw : ai_wd tb_TY ad tys ws) (hf : ai_sl ws 26 9 (.int zf)) (he : ai_sl ws 26 7 (.int ze)) (f0 : 0 ≤ zf.toInt) (f1 : zf.toInt ≤ 160) (e0 : 0 ≤ ze.toInt) (e1 : ze.toInt ≤ 160) (hg : ∀ i, i < 160 → fx_o ws 27 i = some (g i)) {lv : List (Nat × Value)} (hlv : ai_lo ad b [0] tn_lo lv)
    (k4 : ∀ (ws' : va_W) (lv' : List (Nat × Value)), ai_wd tb_TY ad tys ws' → ai_fr tn_WR ws ws' → ai_sl ws' 26 8 (.int 4) → 2 < ze.toInt - zf.toInt → hG tb_m36 p l e R s m args below meth c D A cells slots Q 18 lv' [] ws')
    (k2 : ∀ (ws' : va_W) (lv' : List (Nat × Value)) (zv : Int32), ai_wd tb_TY ad tys ws' → ai_fr tn_WR ws ws' → ai_sl ws' 26 8 (.int 2) → ai_sl ws' 26 10 (.int zv) → ze.toInt - zf.toInt ≤ 2 → zv.toInt = tp_num g zf.toInt.toNat ze.toInt.toNat → hG tb_m36 p l e R s m args below meth c D A cells slots Q 69 lv' [] ws') : hG tb_m36 p l e R s m args below meth c D A cells slots Q 0 lv [] ws := by
  obtain ⟨xs, h1, h2⟩ := ai_anyE tn_r
  have gm : ai_gm tb_TY tn_WR ws ad b L sx tys tb_m36.2.2.2.2.1 [0, 0, zf.toInt, ze.toInt] tn_st lv [] ws := by
    refine ⟨⟨rfl, fun n z e hz he => ?_⟩, (fun q hq => by cases hq), lo0_ok (r := [0]) rfl rfl rfl hlv, trivial, hw, fun q hq => ?_, fun _ _ _ _ h => h, fun h => by cases h⟩
    · match n, hz, he with
      | 0, hz, he => cases hz; cases he; exact ⟨Int.le_refl _, Int.le_refl _, (fun h => by cases h), 0, rfl, Int.le_refl _⟩
      | 1, hz, he => cases hz; cases he; exact ⟨by decide, by decide, (fun h => by cases h), 0, rfl, Int.le_refl _⟩
      | 2, hz, he => cases hz; cases he; exact ⟨f0, f1, (fun h => by cases h), _, rfl, by show zf.toInt + 0 ≤ zf.toInt; omega⟩
      | 3, hz, he => cases hz; cases he; exact ⟨e0, e1, (fun h => by cases h), _, rfl, by show ze.toInt + 0 ≤ ze.toInt; omega⟩
      | n + 4, hz, he => cases hz
    · have hq : q ∈ [(26, 9, ((1, 2, 0, 0) : ai_v)), (26, 7, (1, 3, 0, 0))] := hq
      rcases List.mem_cons.mp hq with rfl | hq
      · exact kn1 hf (n := 2) (t := zf.toInt) rfl (by omega)
      · rcases List.mem_cons.mp hq with rfl | hq
        · exact kn1 he (n := 3) (t := ze.toInt) rfl (by omega)
        · cases hq
  refine hseg (st := tn_st) h1 rfl C gm (fun x hx r' lv' sk' ws' hx' g' => ?_)
  obtain ⟨g1, g2, g3, g4, g5, g6, g7, g8⟩ := g'
  have r0 : r'[0]? = some 0 := hx'.at rfl
  have r2 : r'[2]? = some zf.toInt := hx'.at rfl
  have r3 : r'[3]? = some ze.toInt := hx'.at rfl
  have hox := List.all_eq_true.mp h2 x hx
  unfold tn_ok at hox
  rw [Bool.and_eq_true, Bool.or_eq_true] at hox
  obtain ⟨hs, hox⟩ := hox
  have hsk : sk' = [] := by
    rw [List.isEmpty_iff.mp hs] at g4
    exact g4.nil
  subst hsk
  rcases hox with hox | hox
  · rw [Bool.and_eq_true, Bool.and_eq_true, ai_beq, decide_eq_true_eq] at hox
    obtain ⟨p1, p2, p3⟩ := hox
    obtain ⟨w0', b1, b2, b3⟩ := tn_dok g1 g2 r2 r3 p3
    rw [decide_eq_true_eq] at b1
    obtain ⟨x1, s1, d1⟩ := ai_lk_ok g6 p2
    obtain ⟨i, rfl, hi⟩ := dvn d1 r0
    have hii : i = 4 := Int32.toInt_inj.mp (by rw [hi]; rfl)
    subst hii
    rw [p1]
    exact k4 ws' lv' g5 g7 s1 (by omega)
  · rw [Bool.and_eq_true, Bool.and_eq_true, ai_beq, decide_eq_true_eq] at hox
    obtain ⟨p1, p2, p3⟩ := hox
    obtain ⟨w0', b1, b2, b3⟩ := tn_dok g1 g2 r2 r3 p3
    rw [decide_eq_true_eq] at b1
    have hf' : ai_sl ws' 26 9 (.int zf) := g7 26 9 _ (by decide) hf
    have he' : ai_sl ws' 26 7 (.int ze) := g7 26 7 _ (by decide) he
    have hd : ze.toInt ≤ zf.toInt ∨ ze.toInt = zf.toInt + ((1 : Nat) : Int) ∨ ze.toInt = zf.toInt + ((2 : Nat) : Int) := by omega
    have hlv' : ai_lo ad b [0] tn_lo lv' := lo0_ok r0 rfl rfl (by rw [← p2]; exact g3)
    have hg' : ∀ i, i < 160 → fx_o ws' 27 i = some (g i) := fun i hi => fr_fx (k := 27) g5 rfl g7 (by unfold ai_wr tn_WR; simp) (hg i hi)
    rw [p1]
    rcases hd with hd | hd | hd
    · refine tn_zero C g5 hf' he' f0 f1 e0 e1 hd hlv' (fun ws2 lv2 zv a1 a2 a3 a4 a5 => k2 ws2 lv2 zv a1 (g7.tr a2) a3 a4 (by omega) ?_)
      rw [a5]
      unfold tp_num
      rw [if_pos (by omega)]
    · exact tn_fig (k := 1) (Or.inl rfl) C g5 hf' he' f0 e1 hd hg' hlv' (fun ws2 lv2 zv a1 a2 a3 a4 a5 => k2 ws2 lv2 zv a1 (g7.tr a2) a3 a4 (by omega) a5)
    · exact tn_fig (k := 2) (Or.inr rfl) C g5 hf' he' f0 e1 hd hg' hlv' (fun ws2 lv2 zv a1 a2 a3 a4 a5 => k2 ws2 lv2 zv a1 (g7.tr a2) a3 a4 (by omega) a5)
end TNS
end
section
/-! takeNumber as a known method, with its facts -/
def su_tn (WR : List (Nat × Nat × Nat)) (st : ai_s) : Option (List ai_s) :=
  (ai_lk st.2.2.2.2.1 26 9).bind fun v => (ai_lk st.2.2.2.2.1 26 7).bind fun w =>
    if v.1 = 1 ∧ w.1 = 1 ∧ v.2.2.2 = 0 ∧ w.2.2.2 = 0 ∧ st.2.1 = tn_lo ∧ st.2.2.1 = [] ∧ ai_wr WR 26 8 8 = true ∧ ai_wr WR 26 10 10 = true ∧ nowr WR 27 = true ∧ ai_z st.2.2.2.1 = true then
      some [(18, [], [], st.2.2.2.1, (26, 8, (1, 0, 0, 4)) :: ai_dr (ai_dr st.2.2.2.2.1 26 8 8) 26 10 10, (5, w.2.1, v.2.1, w.2.1, 3) :: st.2.2.2.2.2),
        (69, [], [], ai_nu st.2.2.2.1 (-2147483648) 2147483647, (26, 8, (1, 0, 0, 2)) :: (26, 10, (1, st.2.2.2.1.length, 0, 0)) :: ai_dr (ai_dr st.2.2.2.2.1 26 8 8) 26 10 10, (330, v.2.1, w.2.1, st.2.2.2.1.length, 0) :: (4, w.2.1, v.2.1, w.2.1, 3) :: st.2.2.2.2.2)] else none
theorem wr2 {k j : Nat} (h1 : ¬ (k = 26 ∧ j = 8)) (h2 : ¬ (k = 26 ∧ j = 10)) : ai_wr tn_WR k j j = false := by
  unfold ai_wr tn_WR
  rw [List.any_eq_false]
  intro q hq hx
  rcases List.mem_cons.mp hq with rfl | hq
  · simp only [Bool.and_eq_true, Bool.or_eq_true, decide_eq_true_eq] at hx
    omega
  · rw [List.mem_singleton.mp hq] at hx
    simp only [Bool.and_eq_true, Bool.or_eq_true, decide_eq_true_eq] at hx
    omega
theorem su_tn_ok {WR : List (Nat × Nat × Nat)} {d : Nat} {st : ai_s} {xs : List ai_s} (hq : su_tn WR st = some xs) (h0 : st.1 = 0) (hd : 3 ≤ d) {w0 : va_W} {ad : List Nat} {p : Program} {l : Launch} {e : Env} {R : Room} {s : State} {m : MethodId} {args : Array Value} {below : List Frame} {meth : Method} {c : Code} {D : va_G} {tys : ai_ty} {A : Nat → Prop} {b L : Nat} {sx : Nat → Int32} {cells slots : Nat} {Q : State → Prop} {r0 : List Int}
    (C : ai_cx tb_m36 d p R s m args c D tys A b L sx cells slots) (k : ∀ x ∈ xs, ai_G tb_TY WR w0 ad tb_m36 p l e R s m args below meth c D tys A b L sx cells slots Q r0 x) : ai_G tb_TY WR w0 ad tb_m36 p l e R s m args below meth c D tys A b L sx cells slots Q r0 st := by
  unfold su_tn at hq
  obtain ⟨v, v1, hq⟩ := Option.bind_eq_some_iff.mp hq
  obtain ⟨w, w1, hq⟩ := Option.bind_eq_some_iff.mp hq
  split at hq
  · rename_i hc
    obtain ⟨c1, c2, c3, c4, c5, c6, c7, c8, c9, c10⟩ := hc
    injection hq with hq
    subst hq
    intro r lv sk ws H locs ls hx g hP hD hS hl
    obtain ⟨g1, g2, g3, g4, g5, g6, g7, g8⟩ := g
    have hsk : sk = [] := by rw [c6] at g4; exact g4.nil
    subst hsk
    rw [h0]
    obtain ⟨x1, s1, d1⟩ := ai_lk_ok g6 v1
    obtain ⟨x2, s2, d2⟩ := ai_lk_ok g6 w1
    obtain ⟨zf, rfl⟩ : ∃ i : Int32, x1 = .int i := by
      rcases d1 with ⟨q, -⟩ | ⟨-, z, i, -, q2, -⟩ | ⟨q, -⟩ | ⟨q, -⟩ | ⟨q, -⟩
      · omega
      · exact ⟨i, q2⟩
      all_goals omega
    obtain ⟨ze, rfl⟩ : ∃ i : Int32, x2 = .int i := by
      rcases d2 with ⟨q, -⟩ | ⟨-, z, i, -, q2, -⟩ | ⟨q, -⟩ | ⟨q, -⟩ | ⟨q, -⟩
      · omega
      · exact ⟨i, q2⟩
      all_goals omega
    obtain ⟨za, a1, a2⟩ := ai_dv1 d1 c1
    obtain ⟨zb, b1, b2⟩ := ai_dv1 d2 c2
    rw [c3] at a2
    rw [c4] at b2
    obtain ⟨f0, f1⟩ := f267 (i := 9) g5 s1 rfl
    obtain ⟨e0, e1⟩ := f267 (i := 7) g5 s2 rfl
    have r00 : r[0]? = some 0 := ai_z_ok g1 c10
    have keep : ∀ (ws' : va_W) (r' : List Int), ai_fr tn_WR ws ws' → ai_x r r' → ∀ q ∈ ai_dr (ai_dr st.2.2.2.2.1 26 8 8) 26 10 10, ∃ x, ai_sl ws' q.1 q.2.1 x ∧ ai_dv ad b r' q.2.2 x := fun ws' r' hf hx' q hq => by
      obtain ⟨q1, q2⟩ := dr_out hq
      obtain ⟨q3, q4⟩ := dr_out q1
      obtain ⟨x, k1, k2⟩ := g6 q q3
      exact ⟨x, hf _ _ _ (wr2 q4 q2) k1, k2.mono hx'⟩
    have fr : ∀ ws' : va_W, ai_fr tn_WR ws ws' → ai_fr WR w0 ws' := fun ws' hf cc i x hwr hsl => by
      refine hf cc i x (wr2 (fun h => ?_) (fun h => ?_)) (g7 cc i x hwr hsl)
      · rw [h.1, h.2, c7] at hwr
        cases hwr
      · rw [h.1, h.2, c8] at hwr
        cases hwr
    have z8 : ∀ (r' : List Int), ai_x r r' → ∀ (z : Int32) (t : Int), z.toInt = t → ai_dv ad b r' (1, 0, 0, t) (.int z) := fun r' hx' z t hz => Or.inr (Or.inl ⟨rfl, 0, z, hx'.at r00, rfl, by rw [hz]; show t = 0 + t; omega⟩)
    refine tn_all (g := fx_at ws 27) (mm_cx hd C) g5 s1 s2 f0 f1 e0 e1 (fx_g g5) (lo0_ok r00 rfl rfl (by rw [← c5]; exact g3)) (fun ws' lv' hw' hf h8 hgt => ?_) (fun ws' lv' zv hw' hf h8 h10 hle hnum => ?_) H locs ls hP hD hS hl
    · intro H' locs' ls' hP' hD' hS' hl'
      refine k _ (List.mem_of_getElem? (i := 0) rfl) r [] [] ws' H' locs' ls' hx ⟨g1, ?_, trivial, trivial, hw', ?_, fr ws' hf, fun h => by cases h⟩ hP' hD' hS' ⟨hl'.1, hl'.2.1, fun q hq => by cases hq⟩
      · intro q hq
        rcases List.mem_cons.mp hq with rfl | hq
        · exact ⟨zb, za, zb, b1, a1, b1, fun h => absurd (show (5 : Nat) = 0 from h) (by decide), fun h => absurd (show (5 : Nat) = 1 from h) (by decide), fun h => absurd (show (5 : Nat) = 2 from h) (by decide), fun h => absurd (show (5 : Nat) = 4 from h) (by decide), fun _ => (by show za + 3 ≤ zb; omega), fun h => absurd (show (100 : Nat) ≤ 5 from h) (by decide)⟩
        · exact g2 q hq
      · intro q hq
        rcases List.mem_cons.mp hq with rfl | hq
        · exact ⟨_, h8, z8 r ai_x.rf 4 4 rfl⟩
        · exact keep ws' r hf ai_x.rf q hq
    · intro H' locs' ls' hP' hD' hS' hl'
      refine k _ (List.mem_of_getElem? (i := 1) rfl) (r ++ [zv.toInt]) [] [] ws' H' locs' ls' (hx.tr ai_x.push) ⟨g1.nu (Int32.le_toInt _) (Int32.toInt_le _), ?_, trivial, trivial, hw', ?_, fr ws' hf, fun h => by cases h⟩ hP' hD' hS' ⟨hl'.1, hl'.2.1, fun q hq => by cases hq⟩
      · intro q hq
        rcases List.mem_cons.mp hq with rfl | hq
        · refine ⟨za, zb, zv.toInt, ai_x.push.at a1, ai_x.push.at b1, ai_last g1.1, fun h => absurd (show (330 : Nat) = 0 from h) (by decide), fun h => absurd (show (330 : Nat) = 1 from h) (by decide), fun h => absurd (show (330 : Nat) = 2 from h) (by decide), fun h => absurd (show (330 : Nat) = 4 from h) (by decide), fun h => absurd (show (330 : Nat) = 5 from h) (by decide), fun _ => ⟨fun h => absurd (show (1000 : Nat) ≤ 330 from h) (by decide), fun h => absurd (show (330 : Nat) < 300 ∨ (500 ≤ 330 ∧ 330 < 1000) from h) (by decide), fun g hg => ⟨fun _ h => absurd (show (330 : Nat) < 305 from h) (by decide), fun _ h => absurd (show (330 : Nat) < 318 from h) (by decide), fun _ h => absurd (show (330 : Nat) < 323 from h) (by decide), fun h => absurd (show (400 : Nat) ≤ 330 from h) (by decide), fun _ => ⟨za, zb, zv.toInt, ai_x.push.at a1, ai_x.push.at b1, ai_last g1.1, by omega, by omega, ?_⟩⟩, fun h => absurd (show (330 : Nat) = 350 from h) (by decide)⟩⟩
          rw [hnum, show zf.toInt = za by omega, show ze.toInt = zb by omega]
          unfold tp_num
          split
          · rfl
          · split
            · rw [tape_now g5 g7 c9 hg _ (by omega)]
            · rw [tape_now g5 g7 c9 hg _ (by omega), tape_now g5 g7 c9 hg _ (by omega)]
        · rcases List.mem_cons.mp hq with rfl | hq
          · exact ⟨zb, za, zb, ai_x.push.at b1, ai_x.push.at a1, ai_x.push.at b1, fun h => absurd (show (4 : Nat) = 0 from h) (by decide), fun h => absurd (show (4 : Nat) = 1 from h) (by decide), fun h => absurd (show (4 : Nat) = 2 from h) (by decide), fun _ => (by show zb < za + 3; omega), fun h => absurd (show (4 : Nat) = 5 from h) (by decide), fun h => absurd (show (100 : Nat) ≤ 4 from h) (by decide)⟩
          · exact g2.mono ai_x.push q hq
      · intro q hq
        rcases List.mem_cons.mp hq with rfl | hq
        · exact ⟨_, h8, z8 _ ai_x.push 2 2 rfl⟩
        · rcases List.mem_cons.mp hq with rfl | hq
          · exact ⟨_, h10, Or.inr (Or.inl ⟨rfl, _, _, ai_last g1.1, rfl, by show zv.toInt = zv.toInt + 0; omega⟩)⟩
          · exact keep ws' _ hf ai_x.push q hq
  · cases hq
end
section
/-! advance is sp_tok: the walk with skip and takeNumber known, each end by hand -/
def sv_su (WR : List (Nat × Nat × Nat)) (mid : Nat) (st : ai_s) : Option (List ai_s) := if Nat.beq mid 35 = true then su_sk WR st else if Nat.beq mid 36 = true then su_tn WR st else none
def hkS (WR : List (Nat × Nat × Nat)) : ai_K := (tb_TY, WR, tb_MT, [], sv_su WR, [])
theorem hkS_su {WR : List (Nat × Nat × Nat)} : ai_SU (hkS WR) := by
  intro mid d cu st xs M h0 hM0 w0 ad p l e R s m args below meth c D tys A b L sx cells slots Q r0 C k
  have h : (if (Nat.beq st.1 0 && Nat.ble (ai_gd mid) d) = true then sv_su WR mid st else none) = some xs := h0
  have hM : tb_MT[mid]? = some M := hM0
  clear h0 hM0
  split at h
  · rename_i hc
    rw [Bool.and_eq_true, ai_beq] at hc
    have hd : ai_gd mid ≤ d := Nat.le_of_ble_eq_true hc.2
    unfold sv_su at h
    split at h
    · rename_i h35
      cases ai_beq.mp h35
      cases Option.some.inj (hM.symm.trans (rfl : tb_MT[35]? = some tb_m35))
      exact su_sk_ok h hc.1 hd C k
    · split at h
      · rename_i h36
        cases ai_beq.mp h36
        cases Option.some.inj (hM.symm.trans (rfl : tb_MT[36]? = some tb_m36))
        exact su_tn_ok h hc.1 hd C k
      · cases h
  · cases h
section HNS
variable {ad : List Nat} {M : ai_m} {d : Nat} {p : Program} {l : Launch} {e : Env} {R : Room} {s : State} {m : MethodId} {args : Array Value} {below : List Frame} {meth : Method} {c : Code} {D : va_G} {tys : ai_ty} {A : Nat → Prop} {b L : Nat} {sx : Nat → Int32} {cells slots : Nat} {Q : State → Prop}
theorem hsegS {WR : List (Nat × Nat × Nat)} {n mid : Nat} {cu : List Nat} {st : ai_s} {xs : List ai_s} (h : ai_ex (hkS WR) n mid M d cu st = some xs) (hM : tb_MT[mid]? = some M) (C : ai_cx M d p R s m args c D tys A b L sx cells slots) {r : List Int} {lv : List (Nat × Value)} {sk : List Value} {ws : va_W} (g : ai_gm tb_TY WR ws ad b L sx tys M.2.2.2.2.1 r st lv sk ws)
    (k : ∀ x ∈ xs, ∀ (r' : List Int) (lv' : List (Nat × Value)) (sk' : List Value) (ws' : va_W), ai_x r r' → ai_gm tb_TY WR ws ad b L sx tys M.2.2.2.2.1 r' x lv' sk' ws' → hG M p l e R s m args below meth c D A cells slots Q x.1 lv' sk' ws') : hG M p l e R s m args below meth c D A cells slots Q st.1 lv sk ws :=
  fun H locs ls hP hD hS hl => (ai_ex_ok (K := hkS WR) hkS_su tv_MT n) mid d cu st xs M h hM C (fun x hx r' lv' sk' ws' H' locs' ls' hx' g' hP' hD' hS' hl' => k x hx r' lv' sk' ws' hx' g' H' locs' ls' hP' hD' hS' hl') r lv sk ws H locs ls ai_x.rf g hP hD hS hl
end HNS
def av_WR : List (Nat × Nat × Nat) := [(26, 7, 11)]
def av_st : ai_s := (0, tn_lo, [], [(0, 0, false, 0, 0), (0, 2555, false, 1, 0), (0, 160, false, 2, 0), (0, 160, false, 3, 0)], [(26, 1, (1, 2, 0, 0)), (26, 7, (1, 3, 0, 0))], [])
/-- a fact (k, a, b, n, o) is among them -/
def av_f (x : ai_s) (k a b : Nat) (n : Option Nat) (o : Int) : Bool := x.2.2.2.2.2.any fun q => Nat.beq q.1 k && (Nat.beq q.2.1 a && (Nat.beq q.2.2.1 b && (decide (q.2.2.2.2 = o) && n.all fun i => Nat.beq q.2.2.2.1 i)))
/-- the byte at f is told, with bounds -/
def av_g (x : ai_s) (f : Nat) (h : ai_e → Bool) : Bool := x.2.2.2.2.2.any fun q => Nat.beq q.1 1027 && (Nat.beq q.2.1 f && (decide (q.2.2.2.2 = 0) && (x.2.2.2.1[q.2.2.2.1]?).any h))
def av_n (x : ai_s) (f : Nat) : Bool := x.2.2.2.2.2.any fun q => Nat.beq q.1 1027 && (Nat.beq q.2.1 f && (decide (q.2.2.2.2 = 0) && av_f x 140 q.2.2.2.1 0 none 59))
def av_out (x : ai_s) (f : Nat) (lo hi : Int) : Bool := av_g x f fun e => decide (e.2.1 < lo) || decide (hi < e.1)
def av_in (x : ai_s) (f : Nat) (lo hi : Int) : Bool := av_g x f fun e => decide (lo ≤ e.1) && decide (e.2.1 ≤ hi)
def av_not (x : ai_s) (f : Nat) : Bool := av_n x f || av_out x f 59 59
def av_ok (x : ai_s) : Bool := x.2.2.1.isEmpty && (Nat.beq x.1 141 && ((ai_lk x.2.2.2.2.1 26 9).any fun vf => decide (vf = (1, vf.2.1, 0, 0)) && (av_f x 320 3 2 (some vf.2.1) 0 &&
  ((decide (ai_lk x.2.2.2.2.1 26 8 = some (1, 0, 0, 0)) && (decide (ai_lk x.2.2.2.2.1 26 7 = some (1, vf.2.1, 0, 0)) && av_f x 5 vf.2.1 2 none 0)) ||
   (av_f x 4 vf.2.1 2 none 0 &&
    ((decide (ai_lk x.2.2.2.2.1 26 8 = some (1, 0, 0, 3)) && (decide (ai_lk x.2.2.2.2.1 26 7 = some (1, vf.2.1, 0, 1)) && av_in x vf.2.1 59 59)) ||
     ((decide (ai_lk x.2.2.2.2.1 26 8 = some (1, 0, 0, 1)) && ((ai_lk x.2.2.2.2.1 26 7).any fun ve => decide (ve = (1, ve.2.1, 0, 0)) && (av_f x 321 vf.2.1 2 (some ve.2.1) 0 && av_in x vf.2.1 97 122))) ||
      ((decide (ai_lk x.2.2.2.2.1 26 8 = some (1, 0, 0, 2)) && ((ai_lk x.2.2.2.2.1 26 7).any fun ve => decide (ve = (1, ve.2.1, 0, 0)) && (av_f x 322 vf.2.1 2 (some ve.2.1) 0 && (av_in x vf.2.1 48 57 && (av_f x 4 ve.2.1 vf.2.1 none 3 && (ai_lk x.2.2.2.2.1 26 10).any fun vn => decide (vn = (1, vn.2.1, 0, 0)) && av_f x 330 vf.2.1 ve.2.1 (some vn.2.1) 0))))) ||
       (decide (ai_lk x.2.2.2.2.1 26 8 = some (1, 0, 0, 4)) &&
        (((ai_lk x.2.2.2.2.1 26 7).any fun ve => decide (ve = (1, ve.2.1, 0, 0)) && (av_f x 322 vf.2.1 2 (some ve.2.1) 0 && (av_in x vf.2.1 48 57 && av_f x 5 ve.2.1 vf.2.1 none 3))) ||
         (decide (ai_lk x.2.2.2.2.1 26 7 = some (1, vf.2.1, 0, 0)) && (av_not x vf.2.1 && (av_out x vf.2.1 97 122 && av_out x vf.2.1 48 57)))))))))))))
noncomputable def av_x : Option (List ai_s) := ai_ex (hkS av_WR) 300 34 tb_m34 4 [] av_st
theorem av_r : (av_x.any fun xs => xs.all av_ok) = true := by decide +kernel
end
section
/-! each end of advance, against sp_tok -/
theorem av_mem {x : ai_s} {k a b : Nat} {n : Option Nat} {o : Int} (h : av_f x k a b n o = true) : ∃ q ∈ x.2.2.2.2.2, q.1 = k ∧ q.2.1 = a ∧ q.2.2.1 = b ∧ q.2.2.2.2 = o ∧ ∀ i, n = some i → q.2.2.2.1 = i := by
  obtain ⟨q, hq, h⟩ := List.any_eq_true.mp h
  rw [Bool.and_eq_true, Bool.and_eq_true, Bool.and_eq_true, Bool.and_eq_true, ai_beq, ai_beq, ai_beq, decide_eq_true_eq] at h
  obtain ⟨h1, h2, h3, h4, h5⟩ := h
  exact ⟨q, hq, h1, h2, h3, h4, fun i hi => by rw [hi] at h5; exact ai_beq.mp h5⟩
theorem av_f4 {w0 : va_W} {r : List Int} {x : ai_s} {a b : Nat} {o za zb : Int} (g2 : ai_sb w0 r x.2.2.2.2.2) (ha : r[a]? = some za) (hb : r[b]? = some zb) (h : av_f x 4 a b none o = true) : za < zb + o := by
  obtain ⟨q, hq, h1, h2, h3, h4, -⟩ := av_mem h
  obtain ⟨ya, yb, yr, e1, e2, -, -, -, -, e4, -⟩ := g2 q hq
  rw [h2, ha] at e1
  rw [h3, hb] at e2
  cases e1
  cases e2
  rw [← h4]
  exact e4 h1
theorem av_f5 {w0 : va_W} {r : List Int} {x : ai_s} {a b : Nat} {o za zb : Int} (g2 : ai_sb w0 r x.2.2.2.2.2) (ha : r[a]? = some za) (hb : r[b]? = some zb) (h : av_f x 5 a b none o = true) : zb + o ≤ za := by
  obtain ⟨q, hq, h1, h2, h3, h4, -⟩ := av_mem h
  obtain ⟨ya, yb, yr, e1, e2, -, -, -, -, -, e5, -⟩ := g2 q hq
  rw [h2, ha] at e1
  rw [h3, hb] at e2
  cases e1
  cases e2
  rw [← h4]
  exact e5 h1
theorem av_sk {w0 : va_W} {r : List Int} {x : ai_s} {g : Nat → Int} {j a n : Nat} {zp zn : Int} (g2 : ai_sb w0 r x.2.2.2.2.2) (hg : fx_tape w0 g) (hj : j < 3) (ha : r[a]? = some zp) (hn : r[2]? = some zn) (h : av_f x (320 + j) a 2 (some n) 0 = true) : ∃ zr : Int, r[n]? = some zr ∧ 0 ≤ zr ∧ zr.toNat = tp_skip g zn.toNat (fx_lo j) (fx_hi j) zp.toNat := by
  obtain ⟨q, hq, h1, h2, h3, h4, h5⟩ := av_mem h
  obtain ⟨ya, yb, yr, -, -, -, -, -, -, -, -, e9⟩ := g2 q hq
  obtain ⟨za, zb, zr, f1, f2, f3, f4, f5, f6⟩ := ((e9 (by omega)).2.2.1 g hg).2.2.1 (by omega) (by omega)
  rw [h2, ha] at f1
  rw [h3, hn] at f2
  cases f1
  cases f2
  rw [h5 n rfl] at f3
  rw [h1, h4, Int.add_zero, Nat.add_sub_cancel_left] at f6
  exact ⟨zr, f3, f5, f6⟩
theorem av_num {w0 : va_W} {r : List Int} {x : ai_s} {g : Nat → Int} {a b n : Nat} {zf ze : Int} (g2 : ai_sb w0 r x.2.2.2.2.2) (hg : fx_tape w0 g) (ha : r[a]? = some zf) (hb : r[b]? = some ze) (h : av_f x 330 a b (some n) 0 = true) : r[n]? = some (tp_num g zf.toNat ze.toNat) := by
  obtain ⟨q, hq, h1, h2, h3, h4, h5⟩ := av_mem h
  obtain ⟨ya, yb, yr, -, -, -, -, -, -, -, -, e9⟩ := g2 q hq
  obtain ⟨yf, ye, yv, f1, f2, f3, f4, f5, f6⟩ := ((e9 (by omega)).2.2.1 g hg).2.2.2.2 h1
  rw [h2, ha] at f1
  rw [h3, hb] at f2
  cases f1
  cases f2
  rw [h5 n rfl] at f3
  rw [f3, f6]
theorem av_gok {w0 : va_W} {r : List Int} {x : ai_s} {g : Nat → Int} {f : Nat} {zf : Int} {h : ai_e → Bool} (g1 : ai_ok r x.2.2.2.1) (g2 : ai_sb w0 r x.2.2.2.2.2) (hg : fx_tape w0 g) (ha : r[f]? = some zf) (hz : zf.toNat < 160) (hh : av_g x f h = true) : ∃ e : ai_e, h e = true ∧ e.1 ≤ g zf.toNat ∧ g zf.toNat ≤ e.2.1 := by
  obtain ⟨q, hq, hh⟩ := List.any_eq_true.mp hh
  rw [Bool.and_eq_true, Bool.and_eq_true, Bool.and_eq_true, ai_beq, ai_beq, decide_eq_true_eq] at hh
  obtain ⟨a1, a2, a3, a4⟩ := hh
  obtain ⟨ya, yb, yr, -, -, -, -, -, -, -, -, e9⟩ := g2 q hq
  obtain ⟨z1, z2, f1, f2, f3, f4⟩ := (e9 (by omega)).1 (by omega)
  rw [a2, ha] at f1
  cases f1
  rw [a1, a3, Int.add_zero, show 1027 - 1000 = 27 from rfl] at f4
  have f5 := f4 _ (hg _ hz)
  subst f5
  obtain ⟨e, b1, b2, b3⟩ := ai_any g1 f2 a4
  exact ⟨e, b1, b2, b3⟩
theorem av_nok {w0 : va_W} {r : List Int} {x : ai_s} {g : Nat → Int} {f : Nat} {zf : Int} (g1 : ai_ok r x.2.2.2.1) (g2 : ai_sb w0 r x.2.2.2.2.2) (hg : fx_tape w0 g) (h0 : r[0]? = some 0) (ha : r[f]? = some zf) (hz : zf.toNat < 160) (hh : av_not x f = true) : g zf.toNat ≠ 59 := by
  unfold av_not at hh
  rw [Bool.or_eq_true] at hh
  rcases hh with hh | hh
  · obtain ⟨q, hq, hh⟩ := List.any_eq_true.mp hh
    rw [Bool.and_eq_true, Bool.and_eq_true, Bool.and_eq_true, ai_beq, ai_beq, decide_eq_true_eq] at hh
    obtain ⟨a1, a2, a3, a4⟩ := hh
    obtain ⟨ya, yb, yr, -, -, -, -, -, -, -, -, e9⟩ := g2 q hq
    obtain ⟨z1, z2, f1, f2, f3, f4⟩ := (e9 (by omega)).1 (by omega)
    rw [a2, ha] at f1
    cases f1
    rw [a1, a3, Int.add_zero, show 1027 - 1000 = 27 from rfl] at f4
    have f5 := f4 _ (hg _ hz)
    subst f5
    obtain ⟨q', hq', h1, h2, h3, h4, -⟩ := av_mem a4
    obtain ⟨ua, ub, ur, -, -, -, -, -, -, -, -, u9⟩ := g2 q' hq'
    obtain ⟨t1, t2, k1, k2, -, -, -, k6⟩ := (u9 (by omega)).2.1 (by omega)
    obtain ⟨tb, k7, k8⟩ := k6 h1
    rw [h2, f2] at k1
    cases k1
    rw [h3, h0] at k7
    cases k7
    rw [h4] at k8
    intro hc
    exact k8 (by rw [hc]; rfl)
  · obtain ⟨e, b1, b2, b3⟩ := av_gok g1 g2 hg ha hz hh
    rw [Bool.or_eq_true, decide_eq_true_eq, decide_eq_true_eq] at b1
    omega
theorem av_inok {w0 : va_W} {r : List Int} {x : ai_s} {g : Nat → Int} {f : Nat} {zf lo hi : Int} (g1 : ai_ok r x.2.2.2.1) (g2 : ai_sb w0 r x.2.2.2.2.2) (hg : fx_tape w0 g) (ha : r[f]? = some zf) (hz : zf.toNat < 160) (hh : av_in x f lo hi = true) : lo ≤ g zf.toNat ∧ g zf.toNat ≤ hi := by
  obtain ⟨e, b1, b2, b3⟩ := av_gok g1 g2 hg ha hz hh
  rw [Bool.and_eq_true, decide_eq_true_eq, decide_eq_true_eq] at b1
  omega
theorem av_outok {w0 : va_W} {r : List Int} {x : ai_s} {g : Nat → Int} {f : Nat} {zf lo hi : Int} (g1 : ai_ok r x.2.2.2.1) (g2 : ai_sb w0 r x.2.2.2.2.2) (hg : fx_tape w0 g) (ha : r[f]? = some zf) (hz : zf.toNat < 160) (hh : av_out x f lo hi = true) : g zf.toNat < lo ∨ hi < g zf.toNat := by
  obtain ⟨e, b1, b2, b3⟩ := av_gok g1 g2 hg ha hz hh
  rw [Bool.or_eq_true, decide_eq_true_eq, decide_eq_true_eq] at b1
  omega
section AVA
variable {ad : List Nat} {p : Program} {l : Launch} {e : Env} {R : Room} {s : State} {m : MethodId} {args : Array Value} {below : List Frame} {meth : Method} {c : Code} {D : va_G} {tys : ai_ty} {A : Nat → Prop} {b L : Nat} {sx : Nat → Int32} {cells slots : Nat} {Q : State → Prop}
set_option maxHeartbeats 4000000 in
theorem av_all (C : ai_cx tb_m34 4 p R s m args c D tys A b L sx cells slots) {ws : va_W} {zn zp : Int32} {g : Nat → Int} (hw : ai_wd tb_TY ad tys ws) (hn : ai_sl ws 26 1 (.int zn)) (hp : ai_sl ws 26 7 (.int zp)) (hg : fx_tape ws g) {lv : List (Nat × Value)} (hlv : ai_lo ad b [0] tn_lo lv)
    (k : ∀ (ws' : va_W) (lv' : List (Nat × Value)) (zt zf ze : Int32) (zv : Int), ai_wd tb_TY ad tys ws' → ai_fr av_WR ws ws' → ai_sl ws' 26 8 (.int zt) → ai_sl ws' 26 9 (.int zf) → ai_sl ws' 26 7 (.int ze) → 0 ≤ zt.toInt → 0 ≤ zf.toInt → 0 ≤ ze.toInt → sp_tok g zn.toInt.toNat zp.toInt.toNat = (zt.toInt.toNat, zf.toInt.toNat, ze.toInt.toNat, zv) → (zt.toInt = 2 → ∃ z10 : Int32, ai_sl ws' 26 10 (.int z10) ∧ z10.toInt = zv) → hG tb_m34 p l e R s m args below meth c D A cells slots Q 141 lv' [] ws') : hG tb_m34 p l e R s m args below meth c D A cells slots Q 0 lv [] ws := by
  obtain ⟨n0, n1⟩ := f267 (i := 1) hw hn rfl
  obtain ⟨c0, c1⟩ := f267 (i := 7) hw hp rfl
  have gm : ai_gm tb_TY av_WR ws ad b L sx tys tb_m34.2.2.2.2.1 [0, 0, zn.toInt, zp.toInt] av_st lv [] ws := by
    refine ⟨⟨rfl, fun n z e hz he => ?_⟩, (fun q hq => by cases hq), lo0_ok (r := [0]) rfl rfl rfl hlv, trivial, hw, fun q hq => ?_, fun _ _ _ _ h => h, fun h => by cases h⟩
    · match n, hz, he with
      | 0, hz, he => cases hz; cases he; exact ⟨Int.le_refl _, Int.le_refl _, (fun h => by cases h), 0, rfl, Int.le_refl _⟩
      | 1, hz, he => cases hz; cases he; exact ⟨by decide, by decide, (fun h => by cases h), 0, rfl, Int.le_refl _⟩
      | 2, hz, he => cases hz; cases he; exact ⟨n0, n1, (fun h => by cases h), _, rfl, by show zn.toInt + 0 ≤ zn.toInt; omega⟩
      | 3, hz, he => cases hz; cases he; exact ⟨c0, c1, (fun h => by cases h), _, rfl, by show zp.toInt + 0 ≤ zp.toInt; omega⟩
      | n + 4, hz, he => cases hz
    · have hq : q ∈ [(26, 1, ((1, 2, 0, 0) : ai_v)), (26, 7, (1, 3, 0, 0))] := hq
      rcases List.mem_cons.mp hq with rfl | hq
      · exact kn1 hn (n := 2) (t := zn.toInt) rfl (by omega)
      · rcases List.mem_cons.mp hq with rfl | hq
        · exact kn1 hp (n := 3) (t := zp.toInt) rfl (by omega)
        · cases hq
  obtain ⟨xs, h1, h2⟩ := ai_anyE av_r
  refine hsegS (st := av_st) h1 rfl C gm (fun x hx r' lv' sk' ws' hx' g' => ?_)
  obtain ⟨g1, g2, g3, g4, g5, g6, g7, g8⟩ := g'
  have r0 : r'[0]? = some 0 := hx'.at rfl
  have r2 : r'[2]? = some zn.toInt := hx'.at rfl
  have r3 : r'[3]? = some zp.toInt := hx'.at rfl
  have hox := List.all_eq_true.mp h2 x hx
  unfold av_ok at hox
  rw [Bool.and_eq_true, Bool.and_eq_true, ai_beq] at hox
  obtain ⟨hs, px, hox⟩ := hox
  have hsk : sk' = [] := by
    rw [List.isEmpty_iff.mp hs] at g4
    exact g4.nil
  subst hsk
  obtain ⟨vf, l9, hox⟩ := ai_anyE hox
  rw [Bool.and_eq_true, Bool.and_eq_true, decide_eq_true_eq] at hox
  obtain ⟨ev, hsk0, hox⟩ := hox
  generalize vf.2.1 = F at *
  subst ev
  obtain ⟨ZF, rF, F0, eF⟩ := av_sk (j := 0) g2 hg (by decide) r3 r2 hsk0
  have eF : tp_skip g zn.toInt.toNat 32 32 zp.toInt.toNat = ZF.toNat := eF.symm
  obtain ⟨x9, s9, d9⟩ := ai_lk_ok g6 l9
  obtain ⟨zf, rfl, hzf⟩ := dvn d9 rF
  have tok : ∀ {t : Int}, ai_lk x.2.2.2.2.1 26 8 = some (1, 0, 0, t) → ∃ zt : Int32, ai_sl ws' 26 8 (.int zt) ∧ zt.toInt = t := fun {t} h => by
    obtain ⟨x8, s8, d8⟩ := ai_lk_ok g6 h
    obtain ⟨zt, rfl, hzt⟩ := dvn d8 r0
    exact ⟨zt, s8, by omega⟩
  rw [px]
  rw [Bool.or_eq_true] at hox
  rcases hox with hox | hox
  · rw [Bool.and_eq_true, Bool.and_eq_true, decide_eq_true_eq, decide_eq_true_eq] at hox
    obtain ⟨t0, a0, f5⟩ := hox
    have f5 := av_f5 g2 rF r2 f5
    obtain ⟨zt, s8, ht⟩ := tok t0
    obtain ⟨x7, s7, d7⟩ := ai_lk_ok g6 a0
    obtain ⟨ze, rfl, hze⟩ := dvn d7 rF
    refine k ws' lv' zt zf ze 0 g5 g7 s8 s9 s7 (by omega) (by omega) (by omega) ?_ (fun h => absurd h (by omega))
    unfold sp_tok
    rw [eF, if_pos (by omega), ht, show zf.toInt.toNat = ZF.toNat by omega, show ze.toInt.toNat = ZF.toNat by omega]
    rfl
  · rw [Bool.and_eq_true] at hox
    obtain ⟨f4, hox⟩ := hox
    have f4 := av_f4 g2 rF r2 f4
    have hF : ZF.toNat < 160 := by omega
    rw [Bool.or_eq_true] at hox
    rcases hox with hox | hox
    · rw [Bool.and_eq_true, Bool.and_eq_true, decide_eq_true_eq, decide_eq_true_eq] at hox
      obtain ⟨t0, a0, i0⟩ := hox
      have i0 := av_inok g1 g2 hg rF hF i0
      obtain ⟨zt, s8, ht⟩ := tok t0
      obtain ⟨x7, s7, d7⟩ := ai_lk_ok g6 a0
      obtain ⟨ze, rfl, hze⟩ := dvn d7 rF
      refine k ws' lv' zt zf ze 0 g5 g7 s8 s9 s7 (by omega) (by omega) (by omega) ?_ (fun h => absurd h (by omega))
      unfold sp_tok
      rw [eF, if_neg (by omega), if_pos (by omega), ht, show zf.toInt.toNat = ZF.toNat by omega, show ze.toInt.toNat = ZF.toNat + 1 by omega]
      rfl
    · rw [Bool.or_eq_true] at hox
      rcases hox with hox | hox
      · rw [Bool.and_eq_true, decide_eq_true_eq] at hox
        obtain ⟨t0, hox⟩ := hox
        obtain ⟨ve, l7, hox⟩ := ai_anyE hox
        rw [Bool.and_eq_true, Bool.and_eq_true, decide_eq_true_eq] at hox
        obtain ⟨ee, hs1, i0⟩ := hox
        generalize ve.2.1 = E at *
        subst ee
        have i0 := av_inok g1 g2 hg rF hF i0
        obtain ⟨ZE, rE, E0, eE⟩ := av_sk (j := 1) g2 hg (by decide) rF r2 hs1
        have eE : tp_skip g zn.toInt.toNat 97 122 ZF.toNat = ZE.toNat := eE.symm
        obtain ⟨zt, s8, ht⟩ := tok t0
        obtain ⟨x7, s7, d7⟩ := ai_lk_ok g6 l7
        obtain ⟨ze, rfl, hze⟩ := dvn d7 rE
        refine k ws' lv' zt zf ze 0 g5 g7 s8 s9 s7 (by omega) (by omega) (by omega) ?_ (fun h => absurd h (by omega))
        unfold sp_tok
        rw [eF, if_neg (by omega), if_neg (by omega), if_pos (tp_i_iff.mpr i0), eE, ht, show zf.toInt.toNat = ZF.toNat by omega, show ze.toInt.toNat = ZE.toNat by omega]
        rfl
      · rw [Bool.or_eq_true] at hox
        rcases hox with hox | hox
        · rw [Bool.and_eq_true, decide_eq_true_eq] at hox
          obtain ⟨t0, hox⟩ := hox
          obtain ⟨ve, l7, hox⟩ := ai_anyE hox
          rw [Bool.and_eq_true, Bool.and_eq_true, Bool.and_eq_true, Bool.and_eq_true, decide_eq_true_eq] at hox
          obtain ⟨ee, hs2, i0, h4, hox⟩ := hox
          obtain ⟨vn, l10, hox⟩ := ai_anyE hox
          rw [Bool.and_eq_true, decide_eq_true_eq] at hox
          obtain ⟨en, hnum⟩ := hox
          generalize ve.2.1 = E at *
          subst ee
          generalize vn.2.1 = N at *
          subst en
          have i0 := av_inok g1 g2 hg rF hF i0
          obtain ⟨ZE, rE, E0, eE⟩ := av_sk (j := 2) g2 hg (by decide) rF r2 hs2
          have eE : tp_skip g zn.toInt.toNat 48 57 ZF.toNat = ZE.toNat := eE.symm
          have h4 := av_f4 g2 rE rF h4
          have rN := av_num g2 hg rF rE hnum
          obtain ⟨zt, s8, ht⟩ := tok t0
          obtain ⟨x7, s7, d7⟩ := ai_lk_ok g6 l7
          obtain ⟨ze, rfl, hze⟩ := dvn d7 rE
          obtain ⟨x10, s10, d10⟩ := ai_lk_ok g6 l10
          obtain ⟨z10, rfl, hz10⟩ := dvn d10 rN
          refine k ws' lv' zt zf ze (tp_num g ZF.toNat ZE.toNat) g5 g7 s8 s9 s7 (by omega) (by omega) (by omega) ?_ (fun _ => ⟨z10, s10, by omega⟩)
          unfold sp_tok
          rw [eF, if_neg (by omega), if_neg (by omega), if_neg (fun hc => by have := tp_i_iff.mp hc; omega), if_pos (tp_i_iff.mpr i0), eE, if_neg (by omega), ht, show zf.toInt.toNat = ZF.toNat by omega, show ze.toInt.toNat = ZE.toNat by omega]
          rfl
        · rw [Bool.and_eq_true, decide_eq_true_eq, Bool.or_eq_true] at hox
          obtain ⟨t0, hox⟩ := hox
          obtain ⟨zt, s8, ht⟩ := tok t0
          rcases hox with hox | hox
          · obtain ⟨ve, l7, hox⟩ := ai_anyE hox
            rw [Bool.and_eq_true, Bool.and_eq_true, Bool.and_eq_true, decide_eq_true_eq] at hox
            obtain ⟨ee, hs2, i0, h5⟩ := hox
            generalize ve.2.1 = E at *
            subst ee
            have i0 := av_inok g1 g2 hg rF hF i0
            obtain ⟨ZE, rE, E0, eE⟩ := av_sk (j := 2) g2 hg (by decide) rF r2 hs2
            have eE : tp_skip g zn.toInt.toNat 48 57 ZF.toNat = ZE.toNat := eE.symm
            have h5 := av_f5 g2 rE rF h5
            obtain ⟨x7, s7, d7⟩ := ai_lk_ok g6 l7
            obtain ⟨ze, rfl, hze⟩ := dvn d7 rE
            refine k ws' lv' zt zf ze 0 g5 g7 s8 s9 s7 (by omega) (by omega) (by omega) ?_ (fun h => absurd h (by omega))
            unfold sp_tok
            rw [eF, if_neg (by omega), if_neg (by omega), if_neg (fun hc => by have := tp_i_iff.mp hc; omega), if_pos (tp_i_iff.mpr i0), eE, if_pos (by omega), ht, show zf.toInt.toNat = ZF.toNat by omega, show ze.toInt.toNat = ZE.toNat by omega]
            rfl
          · rw [Bool.and_eq_true, Bool.and_eq_true, Bool.and_eq_true, decide_eq_true_eq] at hox
            obtain ⟨a0, m1, m2, m3⟩ := hox
            have m1 := av_nok g1 g2 hg r0 rF hF m1
            have m2 := av_outok g1 g2 hg rF hF m2
            have m3 := av_outok g1 g2 hg rF hF m3
            obtain ⟨x7, s7, d7⟩ := ai_lk_ok g6 a0
            obtain ⟨ze, rfl, hze⟩ := dvn d7 rF
            refine k ws' lv' zt zf ze 0 g5 g7 s8 s9 s7 (by omega) (by omega) (by omega) ?_ (fun h => absurd h (by omega))
            unfold sp_tok
            rw [eF, if_neg (by omega), if_neg m1, if_neg (fun hc => by have := tp_i_iff.mp hc; omega), if_neg (fun hc => by have := tp_i_iff.mp hc; omega), ht, show zf.toInt.toNat = ZF.toNat by omega, show ze.toInt.toNat = ZF.toNat by omega]
            rfl
end AVA
end
section
/-! advance as a known method: five ends, each with its token -/
theorem tp_num_congr {g g' : Nat → Int} {n f e : Nat} (hn : n ≤ 160) (he : e ≤ n) (h2 : ¬ 2 < e - f) (h : ∀ i, i < 160 → g i = g' i) : tp_num g f e = tp_num g' f e := by
  unfold tp_num
  split
  · rfl
  · split
    · rw [h f (by omega)]
    · rw [h f (by omega), h (f + 1) (by omega)]
theorem sp_tok_congr {g g' : Nat → Int} {n p : Nat} (hn : n ≤ 160) (h : ∀ i, i < 160 → g i = g' i) : sp_tok g n p = sp_tok g' n p := by
  have e : ∀ (lo hi : Int) (q : Nat), tp_skip g n lo hi q = tp_skip g' n lo hi q := fun lo hi q => tp_skip_congr (fun i hi => h i (by omega))
  unfold sp_tok
  simp only [e]
  generalize tp_skip g' n 32 32 p = F
  by_cases hF : n ≤ F
  · rw [if_pos hF, if_pos hF]
  · rw [if_neg hF, if_neg hF, h F (by omega)]
    have hle := (tp_skip_le (g := g') (n := n) (p := F) (lo := 48) (hi := 57)).2 (by omega)
    by_cases h2 : 2 < tp_skip g' n 48 57 F - F
    · rw [if_pos h2, if_pos h2]
    · rw [if_neg h2, if_neg h2, tp_num_congr hn hle h2 h]
theorem sp_tok_ok {g : Nat → Int} {n p t f e : Nat} {v : Int} (h : sp_tok g n p = (t, f, e, v)) : t ≤ 4 ∧ (t ≠ 2 → v = 0) := by
  unfold sp_tok at h
  split at h
  · cases h; exact ⟨by decide, fun _ => rfl⟩
  · split at h
    · cases h; exact ⟨by decide, fun _ => rfl⟩
    · split at h
      · cases h; exact ⟨by decide, fun _ => rfl⟩
      · split at h
        · split at h
          · cases h; exact ⟨by decide, fun _ => rfl⟩
          · cases h; exact ⟨by decide, fun hc => absurd rfl hc⟩
        · cases h; exact ⟨by decide, fun _ => rfl⟩
def av_en (en : List ai_e) : List ai_e := ai_nu (ai_nu (ai_nu en 0 160) 0 160) (-2147483648) 2147483647
def av_end (st : ai_s) (v w : ai_v) (k : Nat) : ai_s := (141, [], [], av_en st.2.2.2.1, (26, 7, (1, st.2.2.2.1.length + 1, 0, 0)) :: (26, 8, (1, 0, 0, (k : Int))) :: (26, 9, (1, st.2.2.2.1.length, 0, 0)) :: ((if Nat.beq k 2 = true then [(26, 10, (1, st.2.2.2.1.length + 2, 0, 0))] else []) ++ ai_dr st.2.2.2.2.1 26 7 10), (300 + k, v.2.1, w.2.1, st.2.2.2.1.length, v.2.2.2) :: st.2.2.2.2.2)
def su_av (WR : List (Nat × Nat × Nat)) (st : ai_s) : Option (List ai_s) :=
  (ai_lk st.2.2.2.2.1 26 7).bind fun v => (ai_lk st.2.2.2.2.1 26 1).bind fun w =>
    if v.1 = 1 ∧ w.1 = 1 ∧ w.2.2.2 = 0 ∧ st.2.1 = tn_lo ∧ st.2.2.1 = [] ∧ (ai_wr WR 26 7 7 = true ∧ ai_wr WR 26 8 8 = true ∧ ai_wr WR 26 9 9 = true ∧ ai_wr WR 26 10 10 = true) ∧ nowr WR 27 = true ∧ ai_z st.2.2.2.1 = true then
      some ((List.range 5).map (av_end st v w)) else none
theorem dr_outR {kn : List ai_k} {c lo hi : Nat} {q : ai_k} (h : q ∈ ai_dr kn c lo hi) : q ∈ kn ∧ ¬ (q.1 = c ∧ lo ≤ q.2.1 ∧ q.2.1 ≤ hi) := by
  unfold ai_dr at h
  obtain ⟨h1, h2⟩ := List.mem_filter.mp h
  refine ⟨h1, fun hc => ?_⟩
  rw [Bool.not_eq_true', Bool.and_eq_false_iff] at h2
  rcases h2 with h2 | h2
  · rw [ai_beq.mpr hc.1] at h2
    cases h2
  · rw [Bool.and_eq_false_iff] at h2
    rcases h2 with h2 | h2
    · rw [Nat.ble_eq_true_of_le hc.2.1] at h2
      cases h2
    · rw [Nat.ble_eq_true_of_le hc.2.2] at h2
      cases h2
theorem wrv {k j : Nat} (h : ¬ (k = 26 ∧ 7 ≤ j ∧ j ≤ 10)) : ai_wr av_WR k j j = false := by
  unfold ai_wr av_WR
  rw [List.any_eq_false]
  intro q hq hx
  rw [List.mem_singleton.mp hq] at hx
  simp only [Bool.and_eq_true, Bool.or_eq_true, decide_eq_true_eq] at hx
  omega
theorem r3_at {r : List Int} {a b c : Int} {n : Nat} (h : r.length = n) : (((r ++ [a]) ++ [b]) ++ [c])[n]? = some a ∧ (((r ++ [a]) ++ [b]) ++ [c])[n + 1]? = some b ∧ (((r ++ [a]) ++ [b]) ++ [c])[n + 2]? = some c := by
  subst h
  refine ⟨?_, ?_, ?_⟩ <;> simp
theorem su_av_ok {WR : List (Nat × Nat × Nat)} {d : Nat} {st : ai_s} {xs : List ai_s} (hq : su_av WR st = some xs) (h0 : st.1 = 0) (hd : 4 ≤ d) {w0 : va_W} {ad : List Nat} {p : Program} {l : Launch} {e : Env} {R : Room} {s : State} {m : MethodId} {args : Array Value} {below : List Frame} {meth : Method} {c : Code} {D : va_G} {tys : ai_ty} {A : Nat → Prop} {b L : Nat} {sx : Nat → Int32} {cells slots : Nat} {Q : State → Prop} {r0 : List Int}
    (C : ai_cx tb_m34 d p R s m args c D tys A b L sx cells slots) (k : ∀ x ∈ xs, ai_G tb_TY WR w0 ad tb_m34 p l e R s m args below meth c D tys A b L sx cells slots Q r0 x) : ai_G tb_TY WR w0 ad tb_m34 p l e R s m args below meth c D tys A b L sx cells slots Q r0 st := by
  unfold su_av at hq
  obtain ⟨v, v1, hq⟩ := Option.bind_eq_some_iff.mp hq
  obtain ⟨w, w1, hq⟩ := Option.bind_eq_some_iff.mp hq
  split at hq
  · rename_i hc
    obtain ⟨c1, c2, c3, c4, c5, ⟨c6, c7, c8, c9⟩, c10, c11⟩ := hc
    injection hq with hq
    subst hq
    intro r lv sk ws H locs ls hx g hP hD hS hl
    obtain ⟨g1, g2, g3, g4, g5, g6, g7, g8⟩ := g
    have hsk : sk = [] := by rw [c5] at g4; exact g4.nil
    subst hsk
    rw [h0]
    obtain ⟨x1, s1, d1⟩ := ai_lk_ok g6 v1
    obtain ⟨x2, s2, d2⟩ := ai_lk_ok g6 w1
    obtain ⟨zp, rfl⟩ : ∃ i : Int32, x1 = .int i := by
      rcases d1 with ⟨q, -⟩ | ⟨-, z, i, -, q2, -⟩ | ⟨q, -⟩ | ⟨q, -⟩ | ⟨q, -⟩
      · omega
      · exact ⟨i, q2⟩
      all_goals omega
    obtain ⟨zn, rfl⟩ : ∃ i : Int32, x2 = .int i := by
      rcases d2 with ⟨q, -⟩ | ⟨-, z, i, -, q2, -⟩ | ⟨q, -⟩ | ⟨q, -⟩ | ⟨q, -⟩
      · omega
      · exact ⟨i, q2⟩
      all_goals omega
    obtain ⟨za, a1, a2⟩ := ai_dv1 d1 c1
    obtain ⟨zb, b1, b2⟩ := ai_dv1 d2 c2
    rw [c3] at b2
    obtain ⟨p0, p1⟩ := f267 (i := 7) g5 s1 rfl
    obtain ⟨n0, n1⟩ := f267 (i := 1) g5 s2 rfl
    have r00 : r[0]? = some 0 := ai_z_ok g1 c11
    refine av_all (g := fx_at ws 27) (mm_cx hd C) g5 s2 s1 (fx_g g5) (lo0_ok r00 rfl rfl (by rw [← c4]; exact g3)) (fun ws' lv' zt zf ze zv hw' hf h8 h9 h7 t0 f0 e0 htok hnum => ?_) H locs ls hP hD hS hl
    intro H' locs' ls' hP' hD' hS' hl'
    obtain ⟨t4, tv⟩ := sp_tok_ok htok
    obtain ⟨-, f1⟩ := f267 (i := 9) hw' h9 rfl
    obtain ⟨-, e1⟩ := f267 (i := 7) hw' h7 rfl
    have zvr : -2147483648 ≤ zv ∧ zv ≤ 2147483647 := by
      by_cases ht2 : zt.toInt = 2
      · obtain ⟨z10, -, h10⟩ := hnum ht2
        rw [← h10]
        exact ⟨Int32.le_toInt _, Int32.toInt_le _⟩
      · rw [tv (by omega)]
        omega
    have hr1 : r.length = st.2.2.2.1.length := g1.1
    have hx3 : ai_x r (((r ++ [zf.toInt]) ++ [ze.toInt]) ++ [zv]) := (ai_x.push.tr ai_x.push).tr ai_x.push
    obtain ⟨q1, q2, q3⟩ := r3_at (a := zf.toInt) (b := ze.toInt) (c := zv) hr1
    refine k _ (List.mem_map.mpr ⟨zt.toInt.toNat, List.mem_range.mpr (by omega), rfl⟩) (((r ++ [zf.toInt]) ++ [ze.toInt]) ++ [zv]) [] [] ws' H' locs' ls' (hx.tr hx3) ⟨((g1.nu f0 f1).nu e0 e1).nu zvr.1 zvr.2, ?_, trivial, trivial, hw', ?_, ?_, fun h => by cases h⟩ hP' hD' hS' ⟨hl'.1, hl'.2.1, fun q hq => by cases hq⟩
    · intro q hq
      rcases List.mem_cons.mp hq with rfl | hq
      · refine ⟨za, zb, zf.toInt, hx3.at a1, hx3.at b1, q1, fun h => absurd (show 300 + zt.toInt.toNat = 0 from h) (by omega), fun h => absurd (show 300 + zt.toInt.toNat = 1 from h) (by omega), fun h => absurd (show 300 + zt.toInt.toNat = 2 from h) (by omega), fun h => absurd (show 300 + zt.toInt.toNat = 4 from h) (by omega), fun h => absurd (show 300 + zt.toInt.toNat = 5 from h) (by omega), fun _ => ⟨fun h => absurd (show 1000 ≤ 300 + zt.toInt.toNat from h) (by omega), fun h => absurd (show 300 + zt.toInt.toNat < 300 ∨ (500 ≤ 300 + zt.toInt.toNat ∧ 300 + zt.toInt.toNat < 1000) from h) (by omega), fun g hg => ⟨fun _ _ => ⟨za, zb, zf.toInt, ze.toInt, zv, hx3.at a1, hx3.at b1, q1, q2, q3, by show 0 ≤ za + v.2.2.2; omega, f0, e0, ?_⟩, fun h => absurd (show 310 ≤ 300 + zt.toInt.toNat from h) (by omega), fun h => absurd (show 320 ≤ 300 + zt.toInt.toNat from h) (by omega), fun h => absurd (show 400 ≤ 300 + zt.toInt.toNat from h) (by omega), fun h => absurd (show 300 + zt.toInt.toNat = 330 from h) (by omega)⟩, fun h => absurd (show 300 + zt.toInt.toNat = 350 from h) (by omega)⟩⟩
        show sp_tok g zb.toNat (za + v.2.2.2).toNat = (300 + zt.toInt.toNat - 300, zf.toInt.toNat, ze.toInt.toNat, zv)
        rw [Nat.add_sub_cancel_left, ← htok, ← a2, show zb = zn.toInt by omega]
        exact (sp_tok_congr (by omega) (tape_now g5 g7 c10 hg)).symm
      · exact g2.mono hx3 q hq
    · intro q hq
      rcases List.mem_cons.mp hq with rfl | hq
      · exact kn1 h7 (n := st.2.2.2.1.length + 1) q2 (by omega)
      · rcases List.mem_cons.mp hq with rfl | hq
        · exact kn1 h8 (n := 0) (hx3.at r00) (by omega)
        · rcases List.mem_cons.mp hq with rfl | hq
          · exact kn1 h9 (n := st.2.2.2.1.length) q1 (by omega)
          · rcases List.mem_append.mp hq with hq | hq
            · split at hq
              · rename_i hk2
                have ht2 := ai_beq.mp hk2
                obtain ⟨z10, s10, h10⟩ := hnum (by omega)
                rw [List.mem_singleton.mp hq]
                exact kn1 s10 (n := st.2.2.2.1.length + 2) q3 (by omega)
              · cases hq
            · obtain ⟨k1, k2⟩ := dr_outR hq
              obtain ⟨x, k3, k4⟩ := g6 q k1
              exact ⟨x, hf _ _ _ (wrv k2) k3, k4.mono hx3⟩
    · intro cc i x hwr hsl
      refine hf cc i x (wrv (fun h => ?_)) (g7 cc i x hwr hsl)
      obtain ⟨i1, i2, i3⟩ := h
      have i4 : i = 7 ∨ i = 8 ∨ i = 9 ∨ i = 10 := by omega
      rw [i1] at hwr
      rcases i4 with rfl | rfl | rfl | rfl
      · rw [c6] at hwr; cases hwr
      · rw [c7] at hwr; cases hwr
      · rw [c8] at hwr; cases hwr
      · rw [c9] at hwr; cases hwr
  · cases hq
end
section
/-! the reference's step: its first two loops (blanks, letters) -/
def ms_lo : List (Nat × ai_v) := [(0, (0, 49, 0, 0))]
def ms_pc (j : Nat) : Nat := if j = 0 then 8 else 84
def ms_go (j : Nat) : Nat := if j = 0 then 31 else 115
def ms_ex (j : Nat) : Nat := if j = 0 then 34 else 118
def ms_WR : List (Nat × Nat × Nat) := [(49, 11, 12)]
def ms_st (j : Nat) : ai_s := (ms_pc j, ms_lo, [], [(0, 0, false, 0, 0), (0, 2555, false, 1, 0), (0, 160, false, 2, 0), (0, 160, false, 3, 0)], [(49, 7, (1, 2, 0, 0)), (49, 11, (1, 3, 0, 0))], [])
def ms_g (x : ai_s) (h : Nat → ai_e → Bool) : Bool := x.2.2.2.2.2.any fun q => Nat.beq q.1 1052 && (Nat.beq q.2.1 3 && (decide (q.2.2.2.2 = 0) && (x.2.2.2.1[q.2.2.2.1]?).any (h q.2.2.2.1)))
def ms_ok (j : Nat) (x : ai_s) : Bool := x.2.2.1.isEmpty &&
  ((Nat.beq x.1 (ms_ex j) && (decide (ai_lk x.2.2.2.2.1 49 11 = some (1, 3, 0, 0)) && (decide (x.2.1 = ms_lo) && (av_f x 5 3 2 none 0 || (av_f x 4 3 2 none 0 && ms_g x fun v e => decide (e.2.1 < fx_lo j) || decide (fx_hi j < e.1) || (decide (fx_lo j = fx_hi j) && av_f x 140 v 0 none (fx_lo j))))))) ||
   (Nat.beq x.1 (ms_go j) && (decide (ai_lk x.2.2.2.2.1 49 11 = some (1, 3, 0, 1)) && (decide (x.2.1 = ms_lo) && (av_f x 4 3 2 none 0 && ms_g x fun _ e => decide (fx_lo j ≤ e.1) && decide (e.2.1 ≤ fx_hi j))))))
theorem ms_r0 : ((ai_ex (hk ms_WR) 200 104 tb_m104 5 [31, 34] (ms_st 0)).any fun xs => xs.all (ms_ok 0)) = true := by decide +kernel
theorem ms_r1 : ((ai_ex (hk ms_WR) 200 104 tb_m104 5 [115, 118] (ms_st 1)).any fun xs => xs.all (ms_ok 1)) = true := by decide +kernel
theorem ms_run (j : Nat) (hj : j < 2) : ((ai_ex (hk ms_WR) 200 104 tb_m104 5 [ms_go j, ms_ex j] (ms_st j)).any fun xs => xs.all (ms_ok j)) = true := by
  match j, hj with
  | 0, _ => exact ms_r0
  | 1, _ => exact ms_r1
  | j + 2, hj => exact absurd hj (by omega)
theorem ms_gok {w0 : va_W} {r : List Int} {x : ai_s} {zc t : Int} {h : Nat → ai_e → Bool} (g1 : ai_ok r x.2.2.2.1) (g2 : ai_sb w0 r x.2.2.2.2.2) (h3 : r[3]? = some zc) (ht : fx_o w0 52 zc.toNat = some t) (hh : ms_g x h = true) : ∃ (v : Nat) (e : ai_e), h v e = true ∧ r[v]? = some t ∧ e.1 ≤ t ∧ t ≤ e.2.1 := by
  obtain ⟨q, hq, hh⟩ := List.any_eq_true.mp hh
  rw [Bool.and_eq_true, Bool.and_eq_true, Bool.and_eq_true, ai_beq, ai_beq, decide_eq_true_eq] at hh
  obtain ⟨a1, a2, a3, a4⟩ := hh
  obtain ⟨ya, yb, yr, -, -, -, -, -, -, -, -, e9⟩ := g2 q hq
  obtain ⟨z1, z2, f1, f2, f3, f4⟩ := (e9 (by omega)).1 (by omega)
  rw [a2, h3] at f1
  cases f1
  rw [a1, a3, Int.add_zero, show 1052 - 1000 = 52 from rfl] at f4
  have f5 := f4 t ht
  subst f5
  obtain ⟨e, b1, b2, b3⟩ := ai_any g1 f2 a4
  exact ⟨_, e, b1, f2, b2, b3⟩
theorem av_ne {w0 : va_W} {r : List Int} {x : ai_s} {a : Nat} {o za : Int} (g2 : ai_sb w0 r x.2.2.2.2.2) (h0 : r[0]? = some 0) (ha : r[a]? = some za) (h : av_f x 140 a 0 none o = true) : za ≠ o := by
  obtain ⟨q, hq, h1, h2, h3, h4, -⟩ := av_mem h
  obtain ⟨ua, ub, ur, -, -, -, -, -, -, -, -, u9⟩ := g2 q hq
  obtain ⟨t1, t2, k1, k2, -, -, -, k6⟩ := (u9 (by omega)).2.1 (by omega)
  obtain ⟨tb, k7, k8⟩ := k6 h1
  rw [h2, ha] at k1
  cases k1
  rw [h3, h0] at k7
  cases k7
  rw [h4, Int.zero_add] at k8
  exact k8
/-- a field of the reference, within its kind's bounds -/
theorem f49 {ad : List Nat} {tys : ai_ty} {ws : va_W} {i : Nat} {z : Int32} {lo hi : Int} (h : ai_wd tb_TY ad tys ws) (hs : ai_sl ws 49 i (.int z)) (hF : (tb_TY[49]?).bind (fun t => t.2.2[i]?) = some (1, 0, lo, hi)) : lo ≤ z.toInt ∧ z.toInt ≤ hi := by
  obtain ⟨y, h1, h2, h3⟩ := pl_f (k := 49) (ci := 6) (lo := lo) (hi := hi) (i := i) h rfl hF
  have := hs.fun h1
  cases this
  exact ⟨h2, h3⟩
section MST
variable {ad : List Nat} {p : Program} {l : Launch} {e : Env} {R : Room} {s : State} {m : MethodId} {args : Array Value} {below : List Frame} {meth : Method} {c : Code} {D : va_G} {tys : ai_ty} {A : Nat → Prop} {b L : Nat} {sx : Nat → Int32} {cells slots : Nat} {Q : State → Prop}
theorem ms_step {j : Nat} (hj : j < 2) (C : ai_cx tb_m104 5 p R s m args c D tys A b L sx cells slots) {ws : va_W} {zn zc : Int32} {g : Nat → Int} (hw : ai_wd tb_TY ad tys ws) (hn : ai_sl ws 49 7 (.int zn)) (hc : ai_sl ws 49 11 (.int zc)) (hg : ∀ i, i < 160 → fx_o ws 52 i = some (g i)) {lv : List (Nat × Value)} (hlv : ai_lo ad b [0] ms_lo lv)
    (k1 : ∀ (ws' : va_W) (lv' : List (Nat × Value)), ai_wd tb_TY ad tys ws' → ai_fr ms_WR ws ws' → ai_sl ws' 49 11 (.int zc) → ai_lo ad b [0] ms_lo lv' → (zn.toInt.toNat ≤ zc.toInt.toNat ∨ g zc.toInt.toNat < fx_lo j ∨ fx_hi j < g zc.toInt.toNat) → hG tb_m104 p l e R s m args below meth c D A cells slots Q (ms_ex j) lv' [] ws')
    (k2 : ∀ (ws' : va_W) (lv' : List (Nat × Value)) (zc' : Int32), ai_wd tb_TY ad tys ws' → ai_fr ms_WR ws ws' → ai_sl ws' 49 11 (.int zc') → zc'.toInt = zc.toInt + 1 → zc.toInt < zn.toInt → fx_lo j ≤ g zc.toInt.toNat → g zc.toInt.toNat ≤ fx_hi j → ai_lo ad b [0] ms_lo lv' → hG tb_m104 p l e R s m args below meth c D A cells slots Q (ms_go j) lv' [] ws') : hG tb_m104 p l e R s m args below meth c D A cells slots Q (ms_pc j) lv [] ws := by
  obtain ⟨n0, n1⟩ := f49 (i := 7) hw hn rfl
  obtain ⟨c0, c1⟩ := f49 (i := 11) hw hc rfl
  obtain ⟨xs, h1, h2⟩ := ai_anyE (ms_run j hj)
  have gm : ai_gm tb_TY ms_WR ws ad b L sx tys tb_m104.2.2.2.2.1 [0, 0, zn.toInt, zc.toInt] (ms_st j) lv [] ws := by
    refine ⟨⟨rfl, fun k z e hz he => ?_⟩, (fun q hq => by cases hq), lo0_ok (r := [0]) rfl rfl rfl hlv, trivial, hw, fun q hq => ?_, fun _ _ _ _ h => h, fun h => by cases h⟩
    · match k, hz, he with
      | 0, hz, he => cases hz; cases he; exact ⟨Int.le_refl _, Int.le_refl _, (fun h => by cases h), 0, rfl, Int.le_refl _⟩
      | 1, hz, he => cases hz; cases he; exact ⟨by decide, by decide, (fun h => by cases h), 0, rfl, Int.le_refl _⟩
      | 2, hz, he => cases hz; cases he; exact ⟨n0, n1, (fun h => by cases h), _, rfl, by show zn.toInt + 0 ≤ zn.toInt; omega⟩
      | 3, hz, he => cases hz; cases he; exact ⟨c0, c1, (fun h => by cases h), _, rfl, by show zc.toInt + 0 ≤ zc.toInt; omega⟩
      | k + 4, hz, he => cases hz
    · have hq : q ∈ [(49, 7, ((1, 2, 0, 0) : ai_v)), (49, 11, (1, 3, 0, 0))] := hq
      rcases List.mem_cons.mp hq with rfl | hq
      · exact kn1 hn (n := 2) (t := zn.toInt) rfl (by omega)
      · rcases List.mem_cons.mp hq with rfl | hq
        · exact kn1 hc (n := 3) (t := zc.toInt) rfl (by omega)
        · cases hq
  refine hseg (st := ms_st j) h1 rfl C gm (fun x hx r' lv' sk' ws' hx' g' => ?_)
  obtain ⟨g1, g2, g3, g4, g5, g6, g7, g8⟩ := g'
  have r0 : r'[0]? = some 0 := hx'.at rfl
  have r2 : r'[2]? = some zn.toInt := hx'.at rfl
  have r3 : r'[3]? = some zc.toInt := hx'.at rfl
  have hox := List.all_eq_true.mp h2 x hx
  unfold ms_ok at hox
  rw [Bool.and_eq_true, Bool.or_eq_true] at hox
  obtain ⟨hs, hox⟩ := hox
  have hsk : sk' = [] := by
    rw [List.isEmpty_iff.mp hs] at g4
    exact g4.nil
  subst hsk
  rcases hox with hox | hox
  · rw [Bool.and_eq_true, Bool.and_eq_true, Bool.and_eq_true, ai_beq, decide_eq_true_eq, decide_eq_true_eq, Bool.or_eq_true] at hox
    obtain ⟨p1, p2, p0, p3⟩ := hox
    obtain ⟨x1, s1, d1⟩ := ai_lk_ok g6 p2
    obtain ⟨i, rfl, hi⟩ := dvn d1 r3
    have hii : i = zc := Int32.toInt_inj.mp (by rw [hi]; omega)
    subst hii
    rw [p1]
    refine k1 ws' lv' g5 g7 s1 (lo0_ok r0 rfl rfl (by rw [← p0]; exact g3)) ?_
    rcases p3 with p3 | p3
    · have := av_f5 g2 r3 r2 p3
      exact Or.inl (by omega)
    · rw [Bool.and_eq_true] at p3
      have h4 := av_f4 g2 r3 r2 p3.1
      obtain ⟨v, e0, b1, b2, b3, b4⟩ := ms_gok g1 g2 r3 (hg _ (by omega)) p3.2
      rw [Bool.or_eq_true, Bool.or_eq_true, Bool.and_eq_true, decide_eq_true_eq, decide_eq_true_eq, decide_eq_true_eq] at b1
      rcases b1 with (b1 | b1) | b1
      · exact Or.inr (Or.inl (by omega))
      · exact Or.inr (Or.inr (by omega))
      · have := av_ne g2 r0 b2 b1.2
        exact Or.inr (by omega)
  · rw [Bool.and_eq_true, Bool.and_eq_true, Bool.and_eq_true, Bool.and_eq_true, ai_beq, decide_eq_true_eq, decide_eq_true_eq] at hox
    obtain ⟨p1, p2, p3, p4, p5⟩ := hox
    obtain ⟨x1, s1, d1⟩ := ai_lk_ok g6 p2
    obtain ⟨i, rfl, hi⟩ := dvn d1 r3
    have h4 := av_f4 g2 r3 r2 p4
    obtain ⟨v, e0, b1, b2, b3, b4⟩ := ms_gok g1 g2 r3 (hg _ (by omega)) p5
    rw [Bool.and_eq_true, decide_eq_true_eq, decide_eq_true_eq] at b1
    rw [p1]
    exact k2 ws' lv' i g5 g7 s1 hi (by omega) (by omega) (by omega) (lo0_ok r0 rfl rfl (by rw [← p3]; exact g3))
end MST
end
section
/-! .. until they end -/
section MSL
variable {ad : List Nat} {p : Program} {l : Launch} {e : Env} {R : Room} {s : State} {m : MethodId} {args : Array Value} {below : List Frame} {meth : Method} {c : Code} {D : va_G} {tys : ai_ty} {A : Nat → Prop} {b L : Nat} {sx : Nat → Int32} {cells slots : Nat} {Q : State → Prop}
theorem ms_back {j : Nat} (hj : j < 2) (C : ai_cx tb_m104 5 p R s m args c D tys A b L sx cells slots) {ws : va_W} {lv : List (Nat × Value)} (k : hG tb_m104 p l e R s m args below meth c D A cells slots Q (ms_pc j) lv [] ws) : hG tb_m104 p l e R s m args below meth c D A cells slots Q (ms_go j) lv [] ws := by
  intro H locs ls hP hD hS hl
  have kk := k H locs ls hP hD hS hl
  match j, hj with
  | 0, _ => exact lv_goto (tgt := 8) C.1 C.2.1 (tv_m104.1.1.1 (31, .goto (-23), 3) (List.mem_of_getElem? (i := 16) rfl)) (by decide) kk
  | 1, _ => exact lv_goto (tgt := 84) C.1 C.2.1 (tv_m104.1.1.1 (115, .goto (-31), 3) (List.mem_of_getElem? (i := 57) rfl)) (by decide) kk
  | j + 2, hj => exact absurd hj (by omega)
theorem ms_loop {j : Nat} (hj : j < 2) (C : ai_cx tb_m104 5 p R s m args c D tys A b L sx cells slots) {zn : Int32} {g : Nat → Int} :
    ∀ (N : Nat) (ws : va_W) (zc : Int32) (lv : List (Nat × Value)), (160 - zc.toInt).toNat < N → ai_wd tb_TY ad tys ws → ai_sl ws 49 7 (.int zn) → ai_sl ws 49 11 (.int zc) → (∀ i, i < 160 → fx_o ws 52 i = some (g i)) → ai_lo ad b [0] ms_lo lv →
    (∀ (ws' : va_W) (lv' : List (Nat × Value)) (ze : Int32), ai_wd tb_TY ad tys ws' → ai_fr ms_WR ws ws' → ai_sl ws' 49 11 (.int ze) → ai_lo ad b [0] ms_lo lv' → ze.toInt.toNat = tp_skip g zn.toInt.toNat (fx_lo j) (fx_hi j) zc.toInt.toNat → hG tb_m104 p l e R s m args below meth c D A cells slots Q (ms_ex j) lv' [] ws') → hG tb_m104 p l e R s m args below meth c D A cells slots Q (ms_pc j) lv [] ws := by
  intro N
  induction N with
  | zero => exact fun ws zc lv h => absurd h (Nat.not_lt_zero _)
  | succ N ih =>
    intro ws zc lv hN hw hn hc hg hlv k
    obtain ⟨n0, n1⟩ := f49 (i := 7) hw hn rfl
    obtain ⟨c0, c1⟩ := f49 (i := 11) hw hc rfl
    refine ms_step hj C hw hn hc hg hlv (fun ws' lv' hw' hf hc' hlo ho => ?_) (fun ws' lv' zc' hw' hf hc' e1 hlt a1 a2 hlv' => ?_)
    · refine k ws' lv' zc hw' hf hc' hlo ?_
      rw [tp_skip_out]
      omega
    · refine ms_back hj C (ih ws' zc' lv' (by omega) hw' (hf 49 7 _ (by decide) hn) hc' (fun i hi => fr_fx hw' (k := 52) rfl hf (by unfold ai_wr ms_WR; simp) (hg i hi)) hlv' (fun ws2 lv2 ze hw2 hf2 h7 hlo e3 => ?_))
      refine k ws2 lv2 ze hw2 (hf.tr hf2) h7 hlo ?_
      rw [e3, tp_skip_in (p := zc.toInt.toNat) (by omega) a1 a2, show zc'.toInt.toNat = zc.toInt.toNat + 1 by omega]
end MSL
end
section
/-! literal states, made quickly -/
def en_b : List Int → List ai_e → Prop
  | [], [] => True
  | z :: r, e :: en => (e.1 ≤ z ∧ z ≤ e.2.1) ∧ en_b r en
  | _, _ => False
theorem en_b_len : ∀ {r : List Int} {en : List ai_e}, en_b r en → r.length = en.length
  | [], [], _ => rfl
  | [], _ :: _, h => h.elim
  | _ :: _, [], h => h.elim
  | _ :: r, _ :: en, h => by
    show r.length + 1 = en.length + 1
    rw [en_b_len h.2]
theorem en_b_get : ∀ {r : List Int} {en : List ai_e} {k : Nat} {z : Int} {e : ai_e}, en_b r en → r[k]? = some z → en[k]? = some e → e.1 ≤ z ∧ z ≤ e.2.1
  | [], _, _, _, _, _, h1, _ => by cases h1
  | _ :: _, [], _, _, _, h, _, _ => h.elim
  | y :: r, f :: en, 0, z, e, h, h1, h2 => by
    cases h1
    cases h2
    exact h.1
  | y :: r, f :: en, k + 1, z, e, h, h1, h2 => en_b_get (r := r) (en := en) (k := k) h.2 h1 h2
def en_s (en : List ai_e) : Bool := (List.range en.length).all fun k => (en[k]?).all fun e => !e.2.2.1 && (Nat.beq e.2.2.2.1 k && decide (e.2.2.2.2 = 0))
theorem en_mk {r : List Int} {en : List ai_e} (h : en_b r en) (s : en_s en = true) : ai_ok r en := by
  refine ⟨en_b_len h, fun k z e hz he => ?_⟩
  obtain ⟨b1, b2⟩ := en_b_get h hz he
  have hk : k < en.length := (List.getElem?_eq_some_iff.mp he).1
  have s1 := List.all_eq_true.mp s k (List.mem_range.mpr hk)
  rw [he] at s1
  have s1 : (!e.2.2.1 && (Nat.beq e.2.2.2.1 k && decide (e.2.2.2.2 = 0))) = true := s1
  rw [Bool.and_eq_true, Bool.and_eq_true, ai_beq, decide_eq_true_eq, Bool.not_eq_true'] at s1
  obtain ⟨s2, s3, s4⟩ := s1
  exact ⟨b1, b2, fun h => (by rw [s2] at h; cases h), z, by rw [s3]; exact hz, by omega⟩
theorem k0 {ad : List Nat} {b : Nat} {r : List Int} {ws : va_W} : ai_kn ad b r ws [] := fun q h => by cases h
theorem kc {ad : List Nat} {b : Nat} {r : List Int} {ws : va_W} {q : ai_k} {kn : List ai_k} (h : ∃ x, ai_sl ws q.1 q.2.1 x ∧ ai_dv ad b r q.2.2 x) (t : ai_kn ad b r ws kn) : ai_kn ad b r ws (q :: kn) := fun k hk => by
  rcases List.mem_cons.mp hk with rfl | hk
  · exact h
  · exact t k hk
/-! the reference's step: the loop of figures, in three states of it -/
/-- the byte of row 52 at name a and o is told, with bounds -/
def mg (x : ai_s) (a : Nat) (o : Int) (h : Nat → ai_e → Bool) : Bool := x.2.2.2.2.2.any fun q => Nat.beq q.1 1052 && (Nat.beq q.2.1 a && (decide (q.2.2.2.2 = o) && (x.2.2.2.1[q.2.2.2.1]?).any (h q.2.2.2.1)))
theorem mg_ok {w0 : va_W} {r : List Int} {x : ai_s} {a : Nat} {o za t : Int} {h : Nat → ai_e → Bool} (g1 : ai_ok r x.2.2.2.1) (g2 : ai_sb w0 r x.2.2.2.2.2) (ha : r[a]? = some za) (ht : fx_o w0 52 (za + o).toNat = some t) (hh : mg x a o h = true) : ∃ (v : Nat) (e : ai_e), h v e = true ∧ r[v]? = some t ∧ e.1 ≤ t ∧ t ≤ e.2.1 := by
  obtain ⟨q, hq, hh⟩ := List.any_eq_true.mp hh
  rw [Bool.and_eq_true, Bool.and_eq_true, Bool.and_eq_true, ai_beq, ai_beq, decide_eq_true_eq] at hh
  obtain ⟨a1, a2, a3, a4⟩ := hh
  obtain ⟨ya, yb, yr, -, -, -, -, -, -, -, -, e9⟩ := g2 q hq
  obtain ⟨z1, z2, f1, f2, f3, f4⟩ := (e9 (by omega)).1 (by omega)
  rw [a2, ha] at f1
  cases f1
  rw [a1, a3, show 1052 - 1000 = 52 from rfl] at f4
  have f5 := f4 t ht
  subst f5
  obtain ⟨e, b1, b2, b3⟩ := ai_any g1 f2 a4
  exact ⟨_, e, b1, f2, b2, b3⟩
def mg_out (x : ai_s) (a : Nat) (o : Int) : Bool := mg x a o fun _ e => decide (e.2.1 < 48) || decide (57 < e.1)
def mg_in (x : ai_s) (a : Nat) (o : Int) : Bool := mg x a o fun _ e => decide (48 ≤ e.1) && decide (e.2.1 ≤ 57)
theorem mg_outok {w0 : va_W} {r : List Int} {x : ai_s} {a : Nat} {o za t : Int} (g1 : ai_ok r x.2.2.2.1) (g2 : ai_sb w0 r x.2.2.2.2.2) (ha : r[a]? = some za) (ht : fx_o w0 52 (za + o).toNat = some t) (hh : mg_out x a o = true) : t < 48 ∨ 57 < t := by
  obtain ⟨v, e, b1, -, b2, b3⟩ := mg_ok g1 g2 ha ht hh
  rw [Bool.or_eq_true, decide_eq_true_eq, decide_eq_true_eq] at b1
  omega
theorem mg_inok {w0 : va_W} {r : List Int} {x : ai_s} {a : Nat} {o za t : Int} (g1 : ai_ok r x.2.2.2.1) (g2 : ai_sb w0 r x.2.2.2.2.2) (ha : r[a]? = some za) (ht : fx_o w0 52 (za + o).toNat = some t) (hh : mg_in x a o = true) : 48 ≤ t ∧ t ≤ 57 := by
  obtain ⟨v, e, b1, -, b2, b3⟩ := mg_ok g1 g2 ha ht hh
  rw [Bool.and_eq_true, decide_eq_true_eq, decide_eq_true_eq] at b1
  omega
def mf_WR : List (Nat × Nat × Nat) := [(49, 11, 12), (49, 14, 15)]
def mf_e : List ai_e := [(0, 0, false, 0, 0), (0, 2555, false, 1, 0), (0, 160, false, 2, 0), (0, 160, false, 3, 0)]
def mf_A : ai_s := (140, ms_lo, [], mf_e, [(49, 7, (1, 2, 0, 0)), (49, 12, (1, 3, 0, 0)), (49, 11, (1, 3, 0, 0)), (49, 14, (1, 0, 0, 0))], [])
def mf_B : ai_s := (140, ms_lo, [], mf_e ++ [(0, 9, false, 4, 0)], [(49, 7, (1, 2, 0, 0)), (49, 12, (1, 3, 0, 0)), (49, 11, (1, 3, 0, 1)), (49, 14, (1, 4, 0, 0))], [])
def mf_C : ai_s := (140, ms_lo, [], mf_e ++ [(0, 160, false, 4, 0), (-2147483648, 2147483647, false, 5, 0)], [(49, 7, (1, 2, 0, 0)), (49, 12, (1, 3, 0, 0)), (49, 11, (1, 4, 0, 0)), (49, 14, (1, 5, 0, 0))], [(5, 4, 3, 4, 2)])
def mf_lk (x : ai_s) (v : ai_v) : Bool := decide (ai_lk x.2.2.2.2.1 49 11 = some v)
def mf_lv (x : ai_s) (v : ai_v) : Bool := decide (ai_lk x.2.2.2.2.1 49 14 = some v)
def mf_bad (x : ai_s) (o : Int) : Bool := x.2.2.2.2.2.any fun q => Nat.beq q.1 0 && (Nat.beq q.2.1 3 && (Nat.beq q.2.2.1 3 && (decide (q.2.2.2.2 = o) && (x.2.2.2.1[q.2.2.2.1]?).any fun e => decide (2 ≤ e.1))))
theorem mf_badok {w0 : va_W} {r : List Int} {x : ai_s} {o za : Int} (g1 : ai_ok r x.2.2.2.1) (g2 : ai_sb w0 r x.2.2.2.2.2) (h3 : r[3]? = some za) (ho : -1 ≤ o) (h : mf_bad x o = true) : False := by
  obtain ⟨q, hq, hox⟩ := List.any_eq_true.mp h
  rw [Bool.and_eq_true, Bool.and_eq_true, Bool.and_eq_true, Bool.and_eq_true, ai_beq, ai_beq, ai_beq, decide_eq_true_eq] at hox
  obtain ⟨a1, a2, a3, a4, a5⟩ := hox
  obtain ⟨ya, yb, yr, e1, e2, e3, e4, -⟩ := g2 q hq
  rw [a2, h3] at e1
  rw [a3, h3] at e2
  cases e1
  cases e2
  have e5 := e4 a1
  obtain ⟨e0, b1, b2, b3⟩ := ai_any g1 e3 a5
  rw [decide_eq_true_eq] at b1
  omega
def mf_okA (x : ai_s) : Bool := x.2.2.1.isEmpty && (mf_bad x 0 ||
  ((Nat.beq x.1 217 && (mf_lk x (1, 3, 0, 0) && (mf_lv x (1, 0, 0, 0) && (decide (x.2.1 = ms_lo) && (av_f x 5 3 2 none 0 || (av_f x 4 3 2 none 0 && mg_out x 3 0)))))) ||
   (Nat.beq x.1 214 && (mf_lk x (1, 3, 0, 1) && (decide (x.2.1 = ms_lo) && (av_f x 4 3 2 none 0 && (mg_in x 3 0 && (ai_lk x.2.2.2.2.1 49 14).any fun v => decide (v = (1, v.2.1, 0, -48)) && mg x 3 0 fun n _ => Nat.beq n v.2.1)))))))
def mf_okB (x : ai_s) : Bool := x.2.2.1.isEmpty && (mf_bad x (-1) ||
  ((Nat.beq x.1 217 && (mf_lk x (1, 3, 0, 1) && (mf_lv x (1, 4, 0, 0) && (decide (x.2.1 = ms_lo) && (av_f x 5 3 2 none (-1) || (av_f x 4 3 2 none (-1) && mg_out x 3 1)))))) ||
   (Nat.beq x.1 214 && (mf_lk x (1, 3, 0, 2) && (decide (x.2.1 = ms_lo) && (av_f x 4 3 2 none (-1) && (mg_in x 3 1 && (ai_lk x.2.2.2.2.1 49 14).any fun v => decide (v = (1, v.2.1, 0, -48)) && (((x.2.2.2.1[v.2.1]?).any fun e => decide (-1000 ≤ e.1) && decide (e.2.1 ≤ 1000)) && x.2.2.2.2.2.any fun q => Nat.beq q.1 1 && (Nat.beq q.2.2.2.1 v.2.1 && (decide (q.2.2.2.2 = 0) && ((mg x 3 1 fun n _ => Nat.beq n q.2.2.1) && av_f x 510 4 4 (some q.2.1) 0)))))))))))
def mf_okC (x : ai_s) : Bool := x.2.2.1.isEmpty && ((x.2.2.2.2.2.any fun q => Nat.beq q.1 0 && (Nat.beq q.2.1 4 && (Nat.beq q.2.2.1 3 && (decide (q.2.2.2.2 = 0) && (x.2.2.2.1[q.2.2.2.1]?).any fun e => decide (e.2.1 ≤ 1))))) ||
  ((Nat.beq x.1 217 && (mf_lk x (1, 4, 0, 0) && (mf_lv x (1, 5, 0, 0) && (decide (x.2.1 = ms_lo) && (av_f x 5 4 2 none 0 || (av_f x 4 4 2 none 0 && mg_out x 4 0)))))) ||
   (Nat.beq x.1 214 && (mf_lk x (1, 4, 0, 1) && (mf_lv x (1, 5, 0, 0) && (decide (x.2.1 = ms_lo) && (av_f x 4 4 2 none 0 && mg_in x 4 0)))))))
theorem mf_rA : ((ai_ex (hk mf_WR) 200 104 tb_m104 5 [214, 217] mf_A).any fun xs => xs.all mf_okA) = true := by decide +kernel
theorem mf_rB : ((ai_ex (hk mf_WR) 200 104 tb_m104 5 [214, 217] mf_B).any fun xs => xs.all mf_okB) = true := by decide +kernel
theorem mf_rC : ((ai_ex (hk mf_WR) 200 104 tb_m104 5 [214, 217] mf_C).any fun xs => xs.all mf_okC) = true := by decide +kernel
end
section
/-! .. its rounds by hand, until it ends -/
section MFL
variable {ad : List Nat} {p : Program} {l : Launch} {e : Env} {R : Room} {s : State} {m : MethodId} {args : Array Value} {below : List Frame} {meth : Method} {c : Code} {D : va_G} {tys : ai_ty} {A : Nat → Prop} {b L : Nat} {sx : Nat → Int32} {cells slots : Nat} {Q : State → Prop}
theorem mf_back (C : ai_cx tb_m104 5 p R s m args c D tys A b L sx cells slots) {ws : va_W} {lv : List (Nat × Value)} (k : hG tb_m104 p l e R s m args below meth c D A cells slots Q 140 lv [] ws) : hG tb_m104 p l e R s m args below meth c D A cells slots Q 214 lv [] ws := by
  intro H locs ls hP hD hS hl
  exact lv_goto (tgt := 140) C.1 C.2.1 (tv_m104.1.1.1 (214, .goto (-74), 3) (List.mem_of_getElem? (i := 106) rfl)) (by decide) (k H locs ls hP hD hS hl)
theorem mf_stC (C : ai_cx tb_m104 5 p R s m args c D tys A b L sx cells slots) {ws : va_W} {zn zh zc zv : Int32} {g : Nat → Int} (hw : ai_wd tb_TY ad tys ws) (hn : ai_sl ws 49 7 (.int zn)) (hh : ai_sl ws 49 12 (.int zh)) (hc : ai_sl ws 49 11 (.int zc)) (hv : ai_sl ws 49 14 (.int zv)) (h2 : zh.toInt + 2 ≤ zc.toInt) (hg : ∀ i, i < 160 → fx_o ws 52 i = some (g i)) {lv : List (Nat × Value)} (hlv : ai_lo ad b [0] ms_lo lv)
    (k1 : ∀ (ws' : va_W) (lv' : List (Nat × Value)), ai_wd tb_TY ad tys ws' → ai_fr mf_WR ws ws' → ai_sl ws' 49 11 (.int zc) → ai_sl ws' 49 14 (.int zv) → ai_lo ad b [0] ms_lo lv' → (zn.toInt.toNat ≤ zc.toInt.toNat ∨ g zc.toInt.toNat < 48 ∨ 57 < g zc.toInt.toNat) → hG tb_m104 p l e R s m args below meth c D A cells slots Q 217 lv' [] ws')
    (k2 : ∀ (ws' : va_W) (lv' : List (Nat × Value)) (zc' : Int32), ai_wd tb_TY ad tys ws' → ai_fr mf_WR ws ws' → ai_sl ws' 49 11 (.int zc') → ai_sl ws' 49 14 (.int zv) → zc'.toInt = zc.toInt + 1 → zc.toInt < zn.toInt → 48 ≤ g zc.toInt.toNat → g zc.toInt.toNat ≤ 57 → ai_lo ad b [0] ms_lo lv' → hG tb_m104 p l e R s m args below meth c D A cells slots Q 214 lv' [] ws') : hG tb_m104 p l e R s m args below meth c D A cells slots Q 140 lv [] ws := by
  obtain ⟨n0, n1⟩ := f49 (i := 7) hw hn rfl
  obtain ⟨c0, c1⟩ := f49 (i := 11) hw hc rfl
  obtain ⟨i0, i1⟩ := f49 (i := 12) hw hh rfl
  obtain ⟨v0, v1⟩ := f49 (i := 14) hw hv rfl
  obtain ⟨xs, h1, h3⟩ := ai_anyE mf_rC
  have gm : ai_gm tb_TY mf_WR ws ad b L sx tys tb_m104.2.2.2.2.1 [0, 0, zn.toInt, zh.toInt, zc.toInt, zv.toInt] mf_C lv [] ws := by
    refine ⟨en_mk (by simp only [mf_C, mf_e, List.cons_append, List.nil_append, en_b, and_true]; omega) rfl, fun q hq => ?_, lo0_ok (r := [0]) rfl rfl rfl hlv, trivial, hw, kc (kn1 hn (n := 2) (t := zn.toInt) rfl (by omega)) (kc (kn1 hh (n := 3) (t := zh.toInt) rfl (by omega)) (kc (kn1 hc (n := 4) (t := zc.toInt) rfl (by omega)) (kc (kn1 hv (n := 5) (t := zv.toInt) rfl (by omega)) k0))), fun _ _ _ _ h => h, fun h => by cases h⟩
    rw [List.mem_singleton.mp hq]
    exact ⟨zc.toInt, zh.toInt, zc.toInt, rfl, rfl, rfl, fun h => absurd (show (5 : Nat) = 0 from h) (by decide), fun h => absurd (show (5 : Nat) = 1 from h) (by decide), fun h => absurd (show (5 : Nat) = 2 from h) (by decide), fun h => absurd (show (5 : Nat) = 4 from h) (by decide), fun _ => h2, fun h => absurd (show (100 : Nat) ≤ 5 from h) (by decide)⟩
  refine hseg (st := mf_C) h1 rfl C gm (fun x hx r' lv' sk' ws' hx' g' => ?_)
  obtain ⟨g1, g2, g3, g4, g5, g6, g7, g8⟩ := g'
  have r0 : r'[0]? = some 0 := hx'.at rfl
  have r2 : r'[2]? = some zn.toInt := hx'.at rfl
  have r3 : r'[3]? = some zh.toInt := hx'.at rfl
  have r4 : r'[4]? = some zc.toInt := hx'.at rfl
  have r5 : r'[5]? = some zv.toInt := hx'.at rfl
  have hox := List.all_eq_true.mp h3 x hx
  unfold mf_okC at hox
  rw [Bool.and_eq_true, Bool.or_eq_true] at hox
  obtain ⟨hs, hox⟩ := hox
  have hsk : sk' = [] := by
    rw [List.isEmpty_iff.mp hs] at g4
    exact g4.nil
  subst hsk
  rcases hox with hox | hox
  · exfalso
    obtain ⟨q, hq, hox⟩ := List.any_eq_true.mp hox
    rw [Bool.and_eq_true, Bool.and_eq_true, Bool.and_eq_true, Bool.and_eq_true, ai_beq, ai_beq, ai_beq, decide_eq_true_eq] at hox
    obtain ⟨a1, a2, a3, a4, a5⟩ := hox
    obtain ⟨za, zb, zr, e1, e2, e3, e4, -⟩ := g2 q hq
    rw [a2, r4] at e1
    rw [a3, r3] at e2
    cases e1
    cases e2
    have e5 := e4 a1
    obtain ⟨e0, b1, b2, b3⟩ := ai_any g1 e3 a5
    rw [decide_eq_true_eq] at b1
    omega
  · have keepv : ∀ {v : Nat} {z : Int32} {i : Nat}, ai_lk x.2.2.2.2.1 49 i = some (1, v, 0, 0) → r'[v]? = some z.toInt → ai_sl ws' 49 i (.int z) := fun {v z i} hl hr => by
      obtain ⟨x1, s1, d1⟩ := ai_lk_ok g6 hl
      obtain ⟨j, rfl, hj⟩ := dvn d1 hr
      have hjz : j = z := Int32.toInt_inj.mp (by rw [hj]; omega)
      rw [← hjz]
      exact s1
    rw [Bool.or_eq_true] at hox
    rcases hox with hox | hox
    · rw [Bool.and_eq_true, Bool.and_eq_true, Bool.and_eq_true, Bool.and_eq_true, ai_beq, decide_eq_true_eq, Bool.or_eq_true] at hox
      obtain ⟨p1, p2, p3, p0, p4⟩ := hox
      have p2 := keepv (decide_eq_true_eq.mp p2) r4
      have p3 := keepv (decide_eq_true_eq.mp p3) r5
      rw [p1]
      refine k1 ws' lv' g5 g7 p2 p3 (lo0_ok r0 rfl rfl (by rw [← p0]; exact g3)) ?_
      rcases p4 with p4 | p4
      · have := av_f5 g2 r4 r2 p4
        exact Or.inl (by omega)
      · rw [Bool.and_eq_true] at p4
        have h4 := av_f4 g2 r4 r2 p4.1
        exact Or.inr (mg_outok g1 g2 r4 (by rw [Int.add_zero]; exact hg _ (by omega)) p4.2)
    · rw [Bool.and_eq_true, Bool.and_eq_true, Bool.and_eq_true, Bool.and_eq_true, Bool.and_eq_true, ai_beq, decide_eq_true_eq] at hox
      obtain ⟨p1, p2, p3, p4, p5, p6⟩ := hox
      have p3 := keepv (decide_eq_true_eq.mp p3) r5
      obtain ⟨x1, s1, d1⟩ := ai_lk_ok g6 (decide_eq_true_eq.mp p2)
      obtain ⟨i, rfl, hi⟩ := dvn d1 r4
      have h4 := av_f4 g2 r4 r2 p5
      obtain ⟨b1, b2⟩ := mg_inok g1 g2 r4 (by rw [Int.add_zero]; exact hg _ (by omega)) p6
      rw [p1]
      exact k2 ws' lv' i g5 g7 s1 p3 hi (by omega) b1 b2 (lo0_ok r0 rfl rfl (by rw [← p4]; exact g3))
theorem mf_loopC (C : ai_cx tb_m104 5 p R s m args c D tys A b L sx cells slots) {zn zh zv : Int32} {g : Nat → Int} :
    ∀ (N : Nat) (ws : va_W) (zc : Int32) (lv : List (Nat × Value)), (160 - zc.toInt).toNat < N → ai_wd tb_TY ad tys ws → ai_sl ws 49 7 (.int zn) → ai_sl ws 49 12 (.int zh) → ai_sl ws 49 11 (.int zc) → ai_sl ws 49 14 (.int zv) → zh.toInt + 2 ≤ zc.toInt → (∀ i, i < 160 → fx_o ws 52 i = some (g i)) → ai_lo ad b [0] ms_lo lv →
    (∀ (ws' : va_W) (lv' : List (Nat × Value)) (ze : Int32), ai_wd tb_TY ad tys ws' → ai_fr mf_WR ws ws' → ai_sl ws' 49 11 (.int ze) → ai_sl ws' 49 14 (.int zv) → ai_lo ad b [0] ms_lo lv' → ze.toInt.toNat = tp_skip g zn.toInt.toNat 48 57 zc.toInt.toNat → hG tb_m104 p l e R s m args below meth c D A cells slots Q 217 lv' [] ws') → hG tb_m104 p l e R s m args below meth c D A cells slots Q 140 lv [] ws := by
  intro N
  induction N with
  | zero => exact fun ws zc lv h => absurd h (Nat.not_lt_zero _)
  | succ N ih =>
    intro ws zc lv hN hw hn hh hc hv h2 hg hlv k
    obtain ⟨n0, n1⟩ := f49 (i := 7) hw hn rfl
    obtain ⟨c0, c1⟩ := f49 (i := 11) hw hc rfl
    refine mf_stC C hw hn hh hc hv h2 hg hlv (fun ws' lv' hw' hf hc' hv' hlo ho => ?_) (fun ws' lv' zc' hw' hf hc' hv' e1 hlt a1 a2 hlv' => ?_)
    · refine k ws' lv' zc hw' hf hc' hv' hlo ?_
      rw [tp_skip_out]
      omega
    · refine mf_back C (ih ws' zc' lv' (by omega) hw' (hf 49 7 _ (by decide) hn) (hf 49 12 _ (by decide) hh) hc' hv' (by omega) (fun i hi => fr_fx hw' (k := 52) rfl hf (by unfold ai_wr mf_WR; simp) (hg i hi)) hlv' (fun ws2 lv2 ze hw2 hf2 h7 h8 hlo e3 => ?_))
      refine k ws2 lv2 ze hw2 (hf.tr hf2) h7 h8 hlo ?_
      rw [e3, tp_skip_in (p := zc.toInt.toNat) (by omega) a1 a2, show zc'.toInt.toNat = zc.toInt.toNat + 1 by omega]
theorem mf_stB (C : ai_cx tb_m104 5 p R s m args c D tys A b L sx cells slots) {ws : va_W} {zn zh zc zv : Int32} {g : Nat → Int} (hw : ai_wd tb_TY ad tys ws) (hn : ai_sl ws 49 7 (.int zn)) (hh : ai_sl ws 49 12 (.int zh)) (hc : ai_sl ws 49 11 (.int zc)) (hv : ai_sl ws 49 14 (.int zv)) (h2 : zc.toInt = zh.toInt + 1) (v0 : 0 ≤ zv.toInt) (v1 : zv.toInt ≤ 9) (hg : ∀ i, i < 160 → fx_o ws 52 i = some (g i)) {lv : List (Nat × Value)} (hlv : ai_lo ad b [0] ms_lo lv)
    (k1 : ∀ (ws' : va_W) (lv' : List (Nat × Value)), ai_wd tb_TY ad tys ws' → ai_fr mf_WR ws ws' → ai_sl ws' 49 11 (.int zc) → ai_sl ws' 49 14 (.int zv) → ai_lo ad b [0] ms_lo lv' → (zn.toInt.toNat ≤ zc.toInt.toNat ∨ g zc.toInt.toNat < 48 ∨ 57 < g zc.toInt.toNat) → hG tb_m104 p l e R s m args below meth c D A cells slots Q 217 lv' [] ws')
    (k2 : ∀ (ws' : va_W) (lv' : List (Nat × Value)) (zc' zv' : Int32), ai_wd tb_TY ad tys ws' → ai_fr mf_WR ws ws' → ai_sl ws' 49 11 (.int zc') → ai_sl ws' 49 14 (.int zv') → zc'.toInt = zc.toInt + 1 → zv'.toInt = 10 * zv.toInt + (g zc.toInt.toNat - 48) → zc.toInt < zn.toInt → 48 ≤ g zc.toInt.toNat → g zc.toInt.toNat ≤ 57 → ai_lo ad b [0] ms_lo lv' → hG tb_m104 p l e R s m args below meth c D A cells slots Q 214 lv' [] ws') : hG tb_m104 p l e R s m args below meth c D A cells slots Q 140 lv [] ws := by
  obtain ⟨n0, n1⟩ := f49 (i := 7) hw hn rfl
  obtain ⟨c0, c1⟩ := f49 (i := 11) hw hc rfl
  obtain ⟨i0, i1⟩ := f49 (i := 12) hw hh rfl
  obtain ⟨xs, h1, h3⟩ := ai_anyE mf_rB
  have gm : ai_gm tb_TY mf_WR ws ad b L sx tys tb_m104.2.2.2.2.1 [0, 0, zn.toInt, zh.toInt, zv.toInt] mf_B lv [] ws := by
    refine ⟨en_mk (by simp only [mf_B, mf_e, List.cons_append, List.nil_append, en_b, and_true]; omega) rfl, (fun q hq => by cases hq), lo0_ok (r := [0]) rfl rfl rfl hlv, trivial, hw, kc (kn1 hn (n := 2) (t := zn.toInt) rfl (by omega)) (kc (kn1 hh (n := 3) (t := zh.toInt) rfl (by omega)) (kc (kn1 hc (n := 3) (t := zh.toInt) rfl (by omega)) (kc (kn1 hv (n := 4) (t := zv.toInt) rfl (by omega)) k0))), fun _ _ _ _ h => h, fun h => by cases h⟩
  refine hseg (st := mf_B) h1 rfl C gm (fun x hx r' lv' sk' ws' hx' g' => ?_)
  obtain ⟨g1, g2, g3, g4, g5, g6, g7, g8⟩ := g'
  have r0 : r'[0]? = some 0 := hx'.at rfl
  have r2 : r'[2]? = some zn.toInt := hx'.at rfl
  have r3 : r'[3]? = some zh.toInt := hx'.at rfl
  have r4 : r'[4]? = some zv.toInt := hx'.at rfl
  have ez : (zh.toInt + 1).toNat = zc.toInt.toNat := by omega
  have hox := List.all_eq_true.mp h3 x hx
  unfold mf_okB at hox
  rw [Bool.and_eq_true, Bool.or_eq_true] at hox
  obtain ⟨hs, hox⟩ := hox
  have hsk : sk' = [] := by
    rw [List.isEmpty_iff.mp hs] at g4
    exact g4.nil
  subst hsk
  rcases hox with hox | hox
  · exact (mf_badok g1 g2 r3 (by decide) hox).elim
  rw [Bool.or_eq_true] at hox
  rcases hox with hox | hox
  · rw [Bool.and_eq_true, Bool.and_eq_true, Bool.and_eq_true, Bool.and_eq_true, ai_beq, decide_eq_true_eq, Bool.or_eq_true] at hox
    obtain ⟨p1, p2, p3, p0, p4⟩ := hox
    obtain ⟨x1, s1, d1⟩ := ai_lk_ok g6 (decide_eq_true_eq.mp p2)
    obtain ⟨j, rfl, hj⟩ := dvn d1 r3
    have hjz : j = zc := Int32.toInt_inj.mp (by omega)
    obtain ⟨x2, s2, d2⟩ := ai_lk_ok g6 (decide_eq_true_eq.mp p3)
    obtain ⟨i, rfl, hi⟩ := dvn d2 r4
    have hiz : i = zv := Int32.toInt_inj.mp (by omega)
    rw [hjz] at s1
    rw [hiz] at s2
    rw [p1]
    refine k1 ws' lv' g5 g7 s1 s2 (lo0_ok r0 rfl rfl (by rw [← p0]; exact g3)) ?_
    rcases p4 with p4 | p4
    · have := av_f5 g2 r3 r2 p4
      exact Or.inl (by omega)
    · rw [Bool.and_eq_true] at p4
      have h4 := av_f4 g2 r3 r2 p4.1
      exact Or.inr (mg_outok g1 g2 r3 (by rw [ez]; exact hg _ (by omega)) p4.2)
  · rw [Bool.and_eq_true, Bool.and_eq_true, Bool.and_eq_true, Bool.and_eq_true, Bool.and_eq_true, ai_beq, decide_eq_true_eq] at hox
    obtain ⟨p1, p2, p3, p4, p5, p6⟩ := hox
    obtain ⟨x1, s1, d1⟩ := ai_lk_ok g6 (decide_eq_true_eq.mp p2)
    obtain ⟨i, rfl, hi⟩ := dvn d1 r3
    have h4 := av_f4 g2 r3 r2 p4
    have hb : fx_o ws 52 (zh.toInt + 1).toNat = some (g zc.toInt.toNat) := by rw [ez]; exact hg _ (by omega)
    obtain ⟨b1, b2⟩ := mg_inok g1 g2 r3 hb p5
    obtain ⟨v, l14, p6⟩ := ai_anyE p6
    rw [Bool.and_eq_true, Bool.and_eq_true, decide_eq_true_eq] at p6
    obtain ⟨ev, p7, p8⟩ := p6
    obtain ⟨q, hq, p8⟩ := List.any_eq_true.mp p8
    rw [Bool.and_eq_true, Bool.and_eq_true, Bool.and_eq_true, Bool.and_eq_true, ai_beq, ai_beq, decide_eq_true_eq] at p8
    obtain ⟨q1, q2, q3, q4, q5⟩ := p8
    obtain ⟨vb, eb, t1, t2, -, -⟩ := mg_ok g1 g2 r3 hb q4
    have t1 := ai_beq.mp t1
    obtain ⟨q', hq', f1, f2, f3, f4, f5⟩ := av_mem q5
    obtain ⟨ua, ub, ur, -, -, -, -, -, -, -, -, u9⟩ := g2 q' hq'
    obtain ⟨y1, y2, w1, w2, -, -, w3, -⟩ := (u9 (by omega)).2.1 (by omega)
    rw [f2, r4] at w1
    cases w1
    have w3 := w3 (by omega)
    rw [f1, f4] at w3
    rw [f5 _ rfl] at w2
    obtain ⟨ya, yb, yr, z1, z2, z3, -, z4, -⟩ := g2 q hq
    have z5 := z4 q1
    rw [w2] at z1
    cases z1
    rw [← t1, t2] at z2
    cases z2
    rw [q3] at z5
    rw [q2] at z3
    obtain ⟨e0, c3, c4, c5⟩ := ai_any g1 z3 p7
    rw [Bool.and_eq_true, decide_eq_true_eq, decide_eq_true_eq] at c3
    obtain ⟨x2, s2, d2⟩ := ai_lk_ok g6 l14
    rw [ev] at d2
    obtain ⟨zv', rfl, hv'⟩ := dvn d2 z3
    have w4 : y2 = 10 * zv.toInt := by rw [w3]; show ((510 - 500 : Nat) : Int) * (zv.toInt + 0) = _; omega
    rw [p1]
    exact k2 ws' lv' i zv' g5 g7 s1 s2 (by omega) (by omega) (by omega) b1 b2 (lo0_ok r0 rfl rfl (by rw [← p3]; exact g3))
theorem mf_stA (C : ai_cx tb_m104 5 p R s m args c D tys A b L sx cells slots) {ws : va_W} {zn zc zv : Int32} {g : Nat → Int} (hw : ai_wd tb_TY ad tys ws) (hn : ai_sl ws 49 7 (.int zn)) (hh : ai_sl ws 49 12 (.int zc)) (hc : ai_sl ws 49 11 (.int zc)) (hv : ai_sl ws 49 14 (.int zv)) (v0 : zv.toInt = 0) (hg : ∀ i, i < 160 → fx_o ws 52 i = some (g i)) {lv : List (Nat × Value)} (hlv : ai_lo ad b [0] ms_lo lv)
    (k1 : ∀ (ws' : va_W) (lv' : List (Nat × Value)), ai_wd tb_TY ad tys ws' → ai_fr mf_WR ws ws' → ai_sl ws' 49 11 (.int zc) → ai_sl ws' 49 14 (.int zv) → ai_lo ad b [0] ms_lo lv' → (zn.toInt.toNat ≤ zc.toInt.toNat ∨ g zc.toInt.toNat < 48 ∨ 57 < g zc.toInt.toNat) → hG tb_m104 p l e R s m args below meth c D A cells slots Q 217 lv' [] ws')
    (k2 : ∀ (ws' : va_W) (lv' : List (Nat × Value)) (zc' zv' : Int32), ai_wd tb_TY ad tys ws' → ai_fr mf_WR ws ws' → ai_sl ws' 49 11 (.int zc') → ai_sl ws' 49 14 (.int zv') → zc'.toInt = zc.toInt + 1 → zv'.toInt = g zc.toInt.toNat - 48 → zc.toInt < zn.toInt → 48 ≤ g zc.toInt.toNat → g zc.toInt.toNat ≤ 57 → ai_lo ad b [0] ms_lo lv' → hG tb_m104 p l e R s m args below meth c D A cells slots Q 214 lv' [] ws') : hG tb_m104 p l e R s m args below meth c D A cells slots Q 140 lv [] ws := by
  obtain ⟨n0, n1⟩ := f49 (i := 7) hw hn rfl
  obtain ⟨c0, c1⟩ := f49 (i := 11) hw hc rfl
  obtain ⟨xs, h1, h3⟩ := ai_anyE mf_rA
  have gm : ai_gm tb_TY mf_WR ws ad b L sx tys tb_m104.2.2.2.2.1 [0, 0, zn.toInt, zc.toInt] mf_A lv [] ws := by
    refine ⟨en_mk (by simp only [mf_A, mf_e, en_b, and_true]; omega) rfl, (fun q hq => by cases hq), lo0_ok (r := [0]) rfl rfl rfl hlv, trivial, hw, kc (kn1 hn (n := 2) (t := zn.toInt) rfl (by omega)) (kc (kn1 hh (n := 3) (t := zc.toInt) rfl (by omega)) (kc (kn1 hc (n := 3) (t := zc.toInt) rfl (by omega)) (kc (kn1 hv (n := 0) (t := 0) rfl (by omega)) k0))), fun _ _ _ _ h => h, fun h => by cases h⟩
  refine hseg (st := mf_A) h1 rfl C gm (fun x hx r' lv' sk' ws' hx' g' => ?_)
  obtain ⟨g1, g2, g3, g4, g5, g6, g7, g8⟩ := g'
  have r0 : r'[0]? = some 0 := hx'.at rfl
  have r2 : r'[2]? = some zn.toInt := hx'.at rfl
  have r3 : r'[3]? = some zc.toInt := hx'.at rfl
  have ez : (zc.toInt + 0).toNat = zc.toInt.toNat := by omega
  have hox := List.all_eq_true.mp h3 x hx
  unfold mf_okA at hox
  rw [Bool.and_eq_true, Bool.or_eq_true] at hox
  obtain ⟨hs, hox⟩ := hox
  have hsk : sk' = [] := by
    rw [List.isEmpty_iff.mp hs] at g4
    exact g4.nil
  subst hsk
  rcases hox with hox | hox
  · exact (mf_badok g1 g2 r3 (by decide) hox).elim
  rw [Bool.or_eq_true] at hox
  rcases hox with hox | hox
  · rw [Bool.and_eq_true, Bool.and_eq_true, Bool.and_eq_true, Bool.and_eq_true, ai_beq, decide_eq_true_eq, Bool.or_eq_true] at hox
    obtain ⟨p1, p2, p3, p0, p4⟩ := hox
    obtain ⟨x1, s1, d1⟩ := ai_lk_ok g6 (decide_eq_true_eq.mp p2)
    obtain ⟨j, rfl, hj⟩ := dvn d1 r3
    have hjz : j = zc := Int32.toInt_inj.mp (by omega)
    obtain ⟨x2, s2, d2⟩ := ai_lk_ok g6 (decide_eq_true_eq.mp p3)
    obtain ⟨i, rfl, hi⟩ := dvn d2 r0
    have hiz : i = zv := Int32.toInt_inj.mp (by omega)
    rw [hjz] at s1
    rw [hiz] at s2
    rw [p1]
    refine k1 ws' lv' g5 g7 s1 s2 (lo0_ok r0 rfl rfl (by rw [← p0]; exact g3)) ?_
    rcases p4 with p4 | p4
    · have := av_f5 g2 r3 r2 p4
      exact Or.inl (by omega)
    · rw [Bool.and_eq_true] at p4
      have h4 := av_f4 g2 r3 r2 p4.1
      exact Or.inr (mg_outok g1 g2 r3 (by rw [ez]; exact hg _ (by omega)) p4.2)
  · rw [Bool.and_eq_true, Bool.and_eq_true, Bool.and_eq_true, Bool.and_eq_true, Bool.and_eq_true, ai_beq, decide_eq_true_eq] at hox
    obtain ⟨p1, p2, p3, p4, p5, p6⟩ := hox
    obtain ⟨x1, s1, d1⟩ := ai_lk_ok g6 (decide_eq_true_eq.mp p2)
    obtain ⟨i, rfl, hi⟩ := dvn d1 r3
    have h4 := av_f4 g2 r3 r2 p4
    have hb : fx_o ws 52 (zc.toInt + 0).toNat = some (g zc.toInt.toNat) := by rw [ez]; exact hg _ (by omega)
    obtain ⟨b1, b2⟩ := mg_inok g1 g2 r3 hb p5
    obtain ⟨v, l14, p6⟩ := ai_anyE p6
    rw [Bool.and_eq_true, decide_eq_true_eq] at p6
    obtain ⟨ev, p7⟩ := p6
    obtain ⟨vb, eb, t1, t2, -, -⟩ := mg_ok g1 g2 r3 hb p7
    have t1 := ai_beq.mp t1
    obtain ⟨x2, s2, d2⟩ := ai_lk_ok g6 l14
    rw [ev, ← t1] at d2
    obtain ⟨zv', rfl, hv'⟩ := dvn d2 t2
    rw [p1]
    exact k2 ws' lv' i zv' g5 g7 s1 s2 (by omega) (by omega) (by omega) b1 b2 (lo0_ok r0 rfl rfl (by rw [← p3]; exact g3))
/-- all of it: where the figures end, and the number of the first two -/
theorem mf_loop (C : ai_cx tb_m104 5 p R s m args c D tys A b L sx cells slots) {ws : va_W} {zn zc zv : Int32} {g : Nat → Int} (hw : ai_wd tb_TY ad tys ws) (hn : ai_sl ws 49 7 (.int zn)) (hh : ai_sl ws 49 12 (.int zc)) (hc : ai_sl ws 49 11 (.int zc)) (hv : ai_sl ws 49 14 (.int zv)) (v0 : zv.toInt = 0) (hg : ∀ i, i < 160 → fx_o ws 52 i = some (g i)) {lv : List (Nat × Value)} (hlv : ai_lo ad b [0] ms_lo lv)
    (k : ∀ (ws' : va_W) (lv' : List (Nat × Value)) (ze zw : Int32), ai_wd tb_TY ad tys ws' → ai_fr mf_WR ws ws' → ai_sl ws' 49 11 (.int ze) → ai_sl ws' 49 14 (.int zw) → ai_lo ad b [0] ms_lo lv' → ze.toInt.toNat = tp_skip g zn.toInt.toNat 48 57 zc.toInt.toNat → (ze.toInt - zc.toInt ≤ 2 → zw.toInt = tp_num g zc.toInt.toNat ze.toInt.toNat) → hG tb_m104 p l e R s m args below meth c D A cells slots Q 217 lv' [] ws') : hG tb_m104 p l e R s m args below meth c D A cells slots Q 140 lv [] ws := by
  obtain ⟨n0, n1⟩ := f49 (i := 7) hw hn rfl
  obtain ⟨c0, c1⟩ := f49 (i := 11) hw hc rfl
  refine mf_stA C hw hn hh hc hv v0 hg hlv (fun ws1 lv1 hw1 hf1 hc1 hv1 hlo ho => ?_) (fun ws1 lv1 z1 y1 hw1 hf1 hc1 hv1 e1 w1 hlt a1 a2 hlv1 => ?_)
  · refine k ws1 lv1 zc zv hw1 hf1 hc1 hv1 hlo ?_ (fun _ => ?_)
    · rw [tp_skip_out]
      omega
    · unfold tp_num
      rw [if_pos (by omega), v0]
  · have hg1 : ∀ i, i < 160 → fx_o ws1 52 i = some (g i) := fun i hi => fr_fx hw1 (k := 52) rfl hf1 (by unfold ai_wr mf_WR; simp) (hg i hi)
    have s1 : tp_skip g zn.toInt.toNat 48 57 zc.toInt.toNat = tp_skip g zn.toInt.toNat 48 57 z1.toInt.toNat := by
      rw [tp_skip_in (p := zc.toInt.toNat) (by omega) a1 a2, show z1.toInt.toNat = zc.toInt.toNat + 1 by omega]
    refine mf_back C (mf_stB C hw1 (hf1 49 7 _ (by decide) hn) (hf1 49 12 _ (by decide) hh) hc1 hv1 e1 (by omega) (by omega) hg1 hlv1 (fun ws2 lv2 hw2 hf2 hc2 hv2 hlo ho => ?_) (fun ws2 lv2 z2 y2 hw2 hf2 hc2 hv2 e2 w2 hlt2 a3 a4 hlv2 => ?_))
    · refine k ws2 lv2 z1 y1 hw2 (hf1.tr hf2) hc2 hv2 hlo ?_ (fun _ => ?_)
      · rw [s1, tp_skip_out]
        omega
      · unfold tp_num
        rw [if_neg (by omega), if_pos (by omega), w1]
    · have hg2 : ∀ i, i < 160 → fx_o ws2 52 i = some (g i) := fun i hi => fr_fx hw2 (k := 52) rfl hf2 (by unfold ai_wr mf_WR; simp) (hg1 i hi)
      refine mf_back C (mf_loopC C ((160 - z2.toInt).toNat + 1) ws2 z2 lv2 (Nat.lt_succ_self _) hw2 (hf2 49 7 _ (by decide) (hf1 49 7 _ (by decide) hn)) (hf2 49 12 _ (by decide) (hf1 49 12 _ (by decide) hh)) hc2 hv2 (by omega) hg2 hlv2 (fun ws3 lv3 ze hw3 hf3 hc3 hv3 hlo e3 => ?_))
      have s2 : tp_skip g zn.toInt.toNat 48 57 z1.toInt.toNat = tp_skip g zn.toInt.toNat 48 57 z2.toInt.toNat := by
        rw [tp_skip_in (p := z1.toInt.toNat) (by omega) a3 a4, show z2.toInt.toNat = z1.toInt.toNat + 1 by omega]
      refine k ws3 lv3 ze y2 hw3 ((hf1.tr hf2).tr hf3) hc3 hv3 hlo (by rw [e3, s1, s2]) (fun h => ?_)
      have hle := (tp_skip_le (g := g) (n := zn.toInt.toNat) (p := z2.toInt.toNat) (lo := 48) (hi := 57)).1
      unfold tp_num
      rw [if_neg (by omega), if_neg (by omega), w2, w1, show z1.toInt.toNat = zc.toInt.toNat + 1 by omega]
end MFL
end
section
/-! the reference's step is sp_tok over row 52 -/
theorem lkv {ad : List Nat} {b : Nat} {r : List Int} {ws : va_W} {kn : List ai_k} {k i n : Nat} {o z : Int} (g6 : ai_kn ad b r ws kn) (h : ai_lk kn k i = some (1, n, 0, o)) (hr : r[n]? = some z) : ∃ j : Int32, ai_sl ws k i (.int j) ∧ j.toInt = z + o := by
  obtain ⟨x, s, d⟩ := ai_lk_ok g6 h
  obtain ⟨j, rfl, hj⟩ := dvn d hr
  exact ⟨j, s, hj⟩
def mgi (x : ai_s) (lo hi : Int) : Bool := mg x 3 0 fun _ e => decide (lo ≤ e.1) && decide (e.2.1 ≤ hi)
def mgo (x : ai_s) (lo hi : Int) : Bool := mg x 3 0 fun _ e => decide (e.2.1 < lo) || decide (hi < e.1)
def mgn (x : ai_s) : Bool := mg x 3 0 fun v e => decide (e.2.1 < 59) || decide (59 < e.1) || av_f x 140 v 0 none 59
def s9 (x : ai_s) (i : Nat) (v : ai_v) : Bool := decide (ai_lk x.2.2.2.2.1 49 i = some v)
def st_WR : List (Nat × Nat × Nat) := [(49, 9, 15)]
def st_0 : ai_s := (0, ms_lo, [], [(0, 0, false, 0, 0), (0, 2555, false, 1, 0)], [(49, 9, (1, 0, 0, 0))], [])
def st_0ok (x : ai_s) : Bool := x.2.2.1.isEmpty && (Nat.beq x.1 8 && decide (x.2.1 = ms_lo))
theorem st_r0 : ((ai_ex (hk []) 20 104 tb_m104 5 [8] st_0).any fun xs => xs.all st_0ok) = true := by decide +kernel
def st_34 : ai_s := (34, ms_lo, [], mf_e, [(49, 7, (1, 2, 0, 0)), (49, 11, (1, 3, 0, 0)), (49, 9, (1, 0, 0, 0))], [])
def st_34ok (x : ai_s) : Bool := x.2.2.1.isEmpty && (s9 x 12 (1, 3, 0, 0) &&
  ((Nat.beq x.1 269 && (s9 x 13 (1, 0, 0, 0) && (s9 x 9 (1, 0, 0, 0) && (s9 x 11 (1, 3, 0, 0) && (s9 x 14 (1, 0, 0, 0) && av_f x 5 3 2 none 0))))) ||
   (av_f x 4 3 2 none 0 &&
    ((Nat.beq x.1 269 && (s9 x 13 (1, 0, 0, 3) && (s9 x 9 (1, 0, 0, 0) && (s9 x 11 (1, 3, 0, 1) && (s9 x 14 (1, 0, 0, 0) && mgi x 59 59))))) ||
     ((Nat.beq x.1 269 && (s9 x 9 (1, 0, 0, 1) && (s9 x 10 (1, 3, 0, 0) && (mgn x && (mgo x 97 122 && mgo x 48 57))))) ||
      (decide (ai_get x.2.1 0 = some (0, 49, 0, 0)) && (s9 x 9 (1, 0, 0, 0) && (s9 x 11 (1, 3, 0, 0) && (s9 x 14 (1, 0, 0, 0) &&
       ((Nat.beq x.1 84 && mgi x 97 122) || (Nat.beq x.1 140 && mgi x 48 57)))))))))))
theorem st_r34 : ((ai_ex (hk st_WR) 200 104 tb_m104 5 [84, 140] st_34).any fun xs => xs.all st_34ok) = true := by decide +kernel
def st_118 : ai_s := (118, ms_lo, [], [(0, 0, false, 0, 0), (0, 2555, false, 1, 0)], [], [])
def st_118ok (x : ai_s) : Bool := x.2.2.1.isEmpty && (Nat.beq x.1 269 && s9 x 13 (1, 0, 0, 1))
theorem st_r118 : ((ai_ex (hk [(49, 13, 14)]) 20 104 tb_m104 5 [] st_118).any fun xs => xs.all st_118ok) = true := by decide +kernel
def st_W217 : List (Nat × Nat × Nat) := [(49, 9, 11), (49, 13, 14)]
def st_217 : ai_s := (217, ms_lo, [], mf_e, [(49, 12, (1, 2, 0, 0)), (49, 11, (1, 3, 0, 0)), (49, 9, (1, 0, 0, 0))], [])
def st_217ok (x : ai_s) : Bool := x.2.2.1.isEmpty && (Nat.beq x.1 269 &&
  (((tn_d x fun e => decide (e.2.1 ≤ 2)) && (s9 x 9 (1, 0, 0, 0) && s9 x 13 (1, 0, 0, 2))) ||
   ((tn_d x fun e => decide (3 ≤ e.1)) && (s9 x 9 (1, 0, 0, 1) && s9 x 10 (1, 2, 0, 0)))))
theorem st_r217 : ((ai_ex (hk st_W217) 60 104 tb_m104 5 [] st_217).any fun xs => xs.all st_217ok) = true := by decide +kernel
section STA
variable {ad : List Nat} {M : ai_m} {p : Program} {l : Launch} {e : Env} {R : Room} {s : State} {m : MethodId} {args : Array Value} {below : List Frame} {meth : Method} {c : Code} {D : va_G} {tys : ai_ty} {A : Nat → Prop} {b L : Nat} {sx : Nat → Int32} {cells slots : Nat} {Q : State → Prop}
theorem hG_this {r : List Int} {lo : List (Nat × ai_v)} {lv : List (Nat × Value)} {cl pc : Nat} {sk : List Value} {ws : va_W} (h : ai_lo ad b r lo lv) (hg : ai_get lo 0 = some (0, cl, 0, 0)) (k : ∀ lv1, ai_lo ad b [0] [(0, (0, cl, 0, 0))] lv1 → hG M p l e R s m args below meth c D A cells slots Q pc lv1 sk ws) : hG M p l e R s m args below meth c D A cells slots Q pc lv sk ws := by
  obtain ⟨n, x, h1, h2⟩ := ai_get_ok h hg
  intro H locs ls hP hD hS hl
  refine k [(0, x)] ⟨rfl, ?_, trivial⟩ H locs ls hP hD hS ⟨hl.1, hl.2.1, fun q hq => ?_⟩
  · rcases h2 with h2 | ⟨q, -⟩ | ⟨q, -⟩ | ⟨q, -⟩ | ⟨q, -⟩
    · exact Or.inl h2
    · exact absurd (id q : (0 : Nat) = 1) (by decide)
    · exact absurd (id q : (0 : Nat) = 2) (by decide)
    · exact absurd (id q : (0 : Nat) = 3) (by decide)
    · exact absurd (id q : (0 : Nat) = 4) (by decide)
  · rw [List.mem_singleton.mp hq]
    exact lv_at hl n h1
/-- what the reference's cells are behind a step: token t from f to e, its number v -/
def st_is (ws : va_W) (t f e : Nat) (v : Int) : Prop :=
  (t = 4 → ∃ zb za : Int32, ai_sl ws 49 9 (.int zb) ∧ zb.toInt = 1 ∧ ai_sl ws 49 10 (.int za) ∧ za.toInt = (f : Int)) ∧
  (t ≠ 4 → ∃ zb zs zh zt zv : Int32, ai_sl ws 49 9 (.int zb) ∧ zb.toInt = 0 ∧ ai_sl ws 49 11 (.int zs) ∧ zs.toInt = (e : Int) ∧ ai_sl ws 49 12 (.int zh) ∧ zh.toInt = (f : Int) ∧ ai_sl ws 49 13 (.int zt) ∧ zt.toInt = (t : Int) ∧ ai_sl ws 49 14 (.int zv) ∧ zv.toInt = v)
theorem st_fr {W : List (Nat × Nat × Nat)} {u v : va_W} (h : ai_fr W u v) (hw : ∀ q ∈ W, q.1 = 49 ∧ 9 ≤ q.2.1 ∧ q.2.2 ≤ 15) : ai_fr st_WR u v := fun c i x a b' => h c i x (by
  unfold ai_wr st_WR at a
  unfold ai_wr
  rw [List.any_eq_false] at a ⊢
  intro q hq hx
  have := a (49, 9, 15) (List.mem_singleton.mpr rfl)
  obtain ⟨w1, w2, w3⟩ := hw q hq
  simp only [Bool.and_eq_true, Bool.or_eq_true, decide_eq_true_eq] at hx this
  omega) b'
set_option maxHeartbeats 4000000 in
theorem st_all (C : ai_cx tb_m104 5 p R s m args c D tys A b L sx cells slots) {ws : va_W} {zn zp zo : Int32} {g : Nat → Int} (hw : ai_wd tb_TY ad tys ws) (hn : ai_sl ws 49 7 (.int zn)) (hp : ai_sl ws 49 11 (.int zp)) (hb : ai_sl ws 49 9 (.int zo)) (hb0 : zo.toInt = 0) (hg : ∀ i, i < 160 → fx_o ws 52 i = some (g i)) {lv : List (Nat × Value)} (hlv : ai_lo ad b [0] ms_lo lv)
    (k : ∀ (ws' : va_W) (lv' : List (Nat × Value)) (t f en : Nat) (v : Int), ai_wd tb_TY ad tys ws' → ai_fr st_WR ws ws' → sp_tok g zn.toInt.toNat zp.toInt.toNat = (t, f, en, v) → f ≤ 160 → en ≤ 160 → -2147483648 ≤ v → v ≤ 2147483647 → st_is ws' t f en v → hG tb_m104 p l e R s m args below meth c D A cells slots Q 269 lv' [] ws') : hG tb_m104 p l e R s m args below meth c D A cells slots Q 0 lv [] ws := by
  obtain ⟨n0, n1⟩ := f49 (i := 7) hw hn rfl
  obtain ⟨xs0, h01, h02⟩ := ai_anyE st_r0
  have gm0 : ai_gm tb_TY [] ws ad b L sx tys tb_m104.2.2.2.2.1 [0, 0] st_0 lv [] ws := by
    refine ⟨en_mk (by simp only [st_0, en_b, and_true]; omega) rfl, (fun q hq => by cases hq), lo0_ok (r := [0]) rfl rfl rfl hlv, trivial, hw, kc (kn1 hb (n := 0) (t := 0) rfl (by omega)) k0, fun _ _ _ _ h => h, fun h => by cases h⟩
  refine hseg (st := st_0) h01 rfl C gm0 (fun x hx r' lv1 sk' ws0 hx' g' => ?_)
  obtain ⟨-, -, g3, g4, hw0, -, f0, -⟩ := g'
  have r0 : r'[0]? = some 0 := hx'.at rfl
  have hox := List.all_eq_true.mp h02 x hx
  unfold st_0ok at hox
  rw [Bool.and_eq_true, Bool.and_eq_true, ai_beq, decide_eq_true_eq] at hox
  obtain ⟨hs, p1, p2⟩ := hox
  have hsk : sk' = [] := by
    rw [List.isEmpty_iff.mp hs] at g4
    exact g4.nil
  subst hsk
  rw [p1]
  have hlv1 : ai_lo ad b [0] ms_lo lv1 := lo0_ok r0 rfl rfl (by rw [← p2]; exact g3)
  clear g3 g4 hx hx' hs p1 p2 r0 r'
  have wn : ∀ (k i : Nat), ai_wr [] k i i = false := fun _ _ => rfl
  have hn0 := f0 49 7 _ (wn _ _) hn
  have hp0 := f0 49 11 _ (wn _ _) hp
  have hb00 := f0 49 9 _ (wn _ _) hb
  have hg0 : ∀ i, i < 160 → fx_o ws0 52 i = some (g i) := fun i hi => fr_fx hw0 (k := 52) rfl f0 (wn _ _) (hg i hi)
  have F0 : ai_fr st_WR ws ws0 := st_fr f0 (fun q hq => by cases hq)
  refine ms_loop (j := 0) (by decide) C ((160 - zp.toInt).toNat + 1) ws0 zp lv1 (Nat.lt_succ_self _) hw0 hn0 hp0 hg0 hlv1 (fun ws1 lv2 zf hw1 f1 hc1 hlv2 eF => ?_)
  have hn1 := f1 49 7 _ (by decide) hn0
  have hb1 := f1 49 9 _ (by decide) hb00
  have hg1 : ∀ i, i < 160 → fx_o ws1 52 i = some (g i) := fun i hi => fr_fx hw1 (k := 52) rfl f1 (by unfold ai_wr ms_WR; simp) (hg0 i hi)
  have F1 : ai_fr st_WR ws ws1 := F0.tr (st_fr f1 (fun q hq => by rw [List.mem_singleton.mp hq]; decide))
  have eF : tp_skip g zn.toInt.toNat 32 32 zp.toInt.toNat = zf.toInt.toNat := eF.symm
  obtain ⟨c0, c1⟩ := f49 (i := 11) hw1 hc1 rfl
  obtain ⟨xs1, h11, h12⟩ := ai_anyE st_r34
  have gm1 : ai_gm tb_TY st_WR ws1 ad b L sx tys tb_m104.2.2.2.2.1 [0, 0, zn.toInt, zf.toInt] st_34 lv2 [] ws1 := by
    refine ⟨en_mk (by simp only [st_34, mf_e, en_b, and_true]; omega) rfl, (fun q hq => by cases hq), lo0_ok (r := [0]) rfl rfl rfl hlv2, trivial, hw1, kc (kn1 hn1 (n := 2) (t := zn.toInt) rfl (by omega)) (kc (kn1 hc1 (n := 3) (t := zf.toInt) rfl (by omega)) (kc (kn1 hb1 (n := 0) (t := 0) rfl (by omega)) k0)), fun _ _ _ _ h => h, fun h => by cases h⟩
  refine hseg (st := st_34) h11 rfl C gm1 (fun x hx r' lv3 sk' ws2 hx' g' => ?_)
  obtain ⟨g1, g2, g3, g4, hw2, g6, f2, -⟩ := g'
  have F2 : ai_fr st_WR ws ws2 := F1.tr f2
  have r0 : r'[0]? = some 0 := hx'.at rfl
  have r2 : r'[2]? = some zn.toInt := hx'.at rfl
  have r3 : r'[3]? = some zf.toInt := hx'.at rfl
  have hox := List.all_eq_true.mp h12 x hx
  unfold st_34ok at hox
  rw [Bool.and_eq_true, Bool.and_eq_true, Bool.or_eq_true] at hox
  obtain ⟨hs, q12, hox⟩ := hox
  have hsk : sk' = [] := by
    rw [List.isEmpty_iff.mp hs] at g4
    exact g4.nil
  subst hsk
  obtain ⟨zh, s12, e12⟩ := lkv g6 (decide_eq_true_eq.mp q12) r3
  have bt : zf.toInt < zn.toInt → fx_o ws1 52 (zf.toInt + 0).toNat = some (g zf.toInt.toNat) := fun h => by
    rw [Int.add_zero]
    exact hg1 _ (by omega)
  have bi : ∀ {lo hi : Int}, zf.toInt < zn.toInt → mgi x lo hi = true → lo ≤ g zf.toInt.toNat ∧ g zf.toInt.toNat ≤ hi := fun {lo hi} h hh => by
    obtain ⟨v, e0, b1, -, b2, b3⟩ := mg_ok g1 g2 r3 (bt h) hh
    rw [Bool.and_eq_true, decide_eq_true_eq, decide_eq_true_eq] at b1
    omega
  have bo : ∀ {lo hi : Int}, zf.toInt < zn.toInt → mgo x lo hi = true → g zf.toInt.toNat < lo ∨ hi < g zf.toInt.toNat := fun {lo hi} h hh => by
    obtain ⟨v, e0, b1, -, b2, b3⟩ := mg_ok g1 g2 r3 (bt h) hh
    rw [Bool.or_eq_true, decide_eq_true_eq, decide_eq_true_eq] at b1
    omega
  rcases hox with hox | hox
  · rw [Bool.and_eq_true, Bool.and_eq_true, Bool.and_eq_true, Bool.and_eq_true, Bool.and_eq_true, ai_beq] at hox
    obtain ⟨p1, q13, q9, q11, q14, h5⟩ := hox
    obtain ⟨zt, s13, e13⟩ := lkv g6 (decide_eq_true_eq.mp q13) r0
    obtain ⟨zb, s9', e9⟩ := lkv g6 (decide_eq_true_eq.mp q9) r0
    obtain ⟨zs, s11, e11⟩ := lkv g6 (decide_eq_true_eq.mp q11) r3
    obtain ⟨zv, s14, e14⟩ := lkv g6 (decide_eq_true_eq.mp q14) r0
    have h5 := av_f5 g2 r3 r2 h5
    rw [p1]
    refine k ws2 lv3 0 zf.toInt.toNat zf.toInt.toNat 0 hw2 F2 ?_ (by omega) (by omega) (by decide) (by decide) ⟨fun h => absurd h (by decide), fun _ => ⟨zb, zs, zh, zt, zv, s9', by omega, s11, by omega, s12, by omega, s13, by omega, s14, by omega⟩⟩
    unfold sp_tok
    rw [eF, if_pos (by omega)]
  · rw [Bool.and_eq_true] at hox
    obtain ⟨h4, hox⟩ := hox
    have h4 := av_f4 g2 r3 r2 h4
    have h4 : zf.toInt < zn.toInt := by omega
    rw [Bool.or_eq_true] at hox
    rcases hox with hox | hox
    · rw [Bool.and_eq_true, Bool.and_eq_true, Bool.and_eq_true, Bool.and_eq_true, Bool.and_eq_true, ai_beq] at hox
      obtain ⟨p1, q13, q9, q11, q14, i0⟩ := hox
      obtain ⟨zt, s13, e13⟩ := lkv g6 (decide_eq_true_eq.mp q13) r0
      obtain ⟨zb, s9', e9⟩ := lkv g6 (decide_eq_true_eq.mp q9) r0
      obtain ⟨zs, s11, e11⟩ := lkv g6 (decide_eq_true_eq.mp q11) r3
      obtain ⟨zv, s14, e14⟩ := lkv g6 (decide_eq_true_eq.mp q14) r0
      have i0 := bi h4 i0
      rw [p1]
      refine k ws2 lv3 3 zf.toInt.toNat (zf.toInt.toNat + 1) 0 hw2 F2 ?_ (by omega) (by omega) (by decide) (by decide) ⟨fun h => absurd h (by decide), fun _ => ⟨zb, zs, zh, zt, zv, s9', by omega, s11, by omega, s12, by omega, s13, by omega, s14, by omega⟩⟩
      unfold sp_tok
      rw [eF, if_neg (by omega), if_pos (by omega)]
    · rw [Bool.or_eq_true] at hox
      rcases hox with hox | hox
      · rw [Bool.and_eq_true, Bool.and_eq_true, Bool.and_eq_true, Bool.and_eq_true, Bool.and_eq_true, ai_beq] at hox
        obtain ⟨p1, q9, q10, m1, m2, m3⟩ := hox
        obtain ⟨zb, s9', e9⟩ := lkv g6 (decide_eq_true_eq.mp q9) r0
        obtain ⟨za, s10, e10⟩ := lkv g6 (decide_eq_true_eq.mp q10) r3
        have m2 := bo h4 m2
        have m3 := bo h4 m3
        have m1 : g zf.toInt.toNat ≠ 59 := by
          obtain ⟨v, e0, b1, b4, b2, b3⟩ := mg_ok g1 g2 r3 (bt h4) m1
          rw [Bool.or_eq_true, Bool.or_eq_true, decide_eq_true_eq, decide_eq_true_eq] at b1
          rcases b1 with (b1 | b1) | b1
          · omega
          · omega
          · exact av_ne g2 r0 b4 b1
        rw [p1]
        refine k ws2 lv3 4 zf.toInt.toNat zf.toInt.toNat 0 hw2 F2 ?_ (by omega) (by omega) (by decide) (by decide) ⟨fun _ => ⟨zb, za, s9', by omega, s10, by omega⟩, fun h => absurd rfl h⟩
        unfold sp_tok
        rw [eF, if_neg (by omega), if_neg m1, if_neg (fun hc => by have := tp_i_iff.mp hc; omega), if_neg (fun hc => by have := tp_i_iff.mp hc; omega)]
      · rw [Bool.and_eq_true, Bool.and_eq_true, Bool.and_eq_true, Bool.and_eq_true, decide_eq_true_eq, Bool.or_eq_true] at hox
        obtain ⟨q0, q9, q11, q14, hox⟩ := hox
        obtain ⟨zb, s9', e9⟩ := lkv g6 (decide_eq_true_eq.mp q9) r0
        obtain ⟨zs, s11, e11⟩ := lkv g6 (decide_eq_true_eq.mp q11) r3
        obtain ⟨zv, s14, e14⟩ := lkv g6 (decide_eq_true_eq.mp q14) r0
        have ezs : zs = zf := Int32.toInt_inj.mp (by omega)
        have ezh : zh = zf := Int32.toInt_inj.mp (by omega)
        subst ezs
        subst ezh
        have hn2 : ai_sl ws2 49 7 (.int zn) := f2 49 7 _ (by decide) hn1
        have hg2 : ∀ i, i < 160 → fx_o ws2 52 i = some (g i) := fun i hi => fr_fx hw2 (k := 52) rfl f2 (by unfold ai_wr st_WR; simp) (hg1 i hi)
        rcases hox with hox | hox
        · rw [Bool.and_eq_true, ai_beq] at hox
          have i0 := bi h4 hox.2
          rw [hox.1]
          refine hG_this g3 q0 (fun lv4 hlv4 => ?_)
          refine ms_loop (j := 1) (by decide) C ((160 - zh.toInt).toNat + 1) ws2 zh lv4 (Nat.lt_succ_self _) hw2 hn2 s11 hg2 hlv4 (fun ws3 lv5 ze hw3 f3 hc3 hlv5 eE => ?_)
          have eE : tp_skip g zn.toInt.toNat 97 122 zh.toInt.toNat = ze.toInt.toNat := eE.symm
          have F3 : ai_fr st_WR ws ws3 := F2.tr (st_fr f3 (fun q hq => by rw [List.mem_singleton.mp hq]; decide))
          have s93 := f3 49 9 _ (by decide) s9'
          have s123 := f3 49 12 _ (by decide) s12
          have s143 := f3 49 14 _ (by decide) s14
          obtain ⟨d0, d1⟩ := f49 (i := 11) hw3 hc3 rfl
          obtain ⟨xs2, h21, h22⟩ := ai_anyE st_r118
          have gm2 : ai_gm tb_TY [(49, 13, 14)] ws3 ad b L sx tys tb_m104.2.2.2.2.1 [0, 0] st_118 lv5 [] ws3 := by
            refine ⟨en_mk (by simp only [st_118, en_b, and_true]; omega) rfl, (fun q hq => by cases hq), lo0_ok (r := [0]) rfl rfl rfl hlv5, trivial, hw3, k0, fun _ _ _ _ h => h, fun h => by cases h⟩
          refine hseg (st := st_118) h21 rfl C gm2 (fun x2 hx2 r2' lv6 sk2 ws4 hx2' g2' => ?_)
          obtain ⟨-, -, -, k4, hw4, k6, f4, -⟩ := g2'
          have hox2 := List.all_eq_true.mp h22 x2 hx2
          unfold st_118ok at hox2
          rw [Bool.and_eq_true, Bool.and_eq_true, ai_beq] at hox2
          obtain ⟨hs2, p1, q13⟩ := hox2
          have hsk2 : sk2 = [] := by
            rw [List.isEmpty_iff.mp hs2] at k4
            exact k4.nil
          subst hsk2
          obtain ⟨zt, s13, e13⟩ := lkv k6 (decide_eq_true_eq.mp q13) (hx2'.at (show ([0, 0] : List Int)[0]? = some 0 from rfl))
          rw [p1]
          refine k ws4 lv6 1 zh.toInt.toNat ze.toInt.toNat 0 hw4 (F3.tr (st_fr f4 (fun q hq => by rw [List.mem_singleton.mp hq]; decide))) ?_ (by omega) (by omega) (by decide) (by decide) ⟨fun h => absurd h (by decide), fun _ => ⟨zb, ze, zh, zt, zv, f4 49 9 _ (by decide) s93, by omega, f4 49 11 _ (by decide) hc3, by omega, f4 49 12 _ (by decide) s123, by omega, s13, by omega, f4 49 14 _ (by decide) s143, by omega⟩⟩
          unfold sp_tok
          rw [eF, if_neg (by omega), if_neg (by omega), if_pos (tp_i_iff.mpr i0), eE]
        · rw [Bool.and_eq_true, ai_beq] at hox
          have i0 := bi h4 hox.2
          rw [hox.1]
          refine hG_this g3 q0 (fun lv4 hlv4 => ?_)
          refine mf_loop C hw2 hn2 s12 s11 s14 (by omega) hg2 hlv4 (fun ws3 lv5 ze zw hw3 f3 hc3 hv3 hlv5 eE hnum => ?_)
          have eE : tp_skip g zn.toInt.toNat 48 57 zh.toInt.toNat = ze.toInt.toNat := eE.symm
          have F3 : ai_fr st_WR ws ws3 := F2.tr (st_fr f3 (fun q hq => by
            rcases List.mem_cons.mp hq with rfl | hq
            · decide
            · rw [List.mem_singleton.mp hq]; decide))
          have s93 := f3 49 9 _ (by decide) s9'
          have s123 := f3 49 12 _ (by decide) s12
          obtain ⟨d0, d1⟩ := f49 (i := 11) hw3 hc3 rfl
          obtain ⟨xs2, h21, h22⟩ := ai_anyE st_r217
          have gm2 : ai_gm tb_TY st_W217 ws3 ad b L sx tys tb_m104.2.2.2.2.1 [0, 0, zh.toInt, ze.toInt] st_217 lv5 [] ws3 := by
            refine ⟨en_mk (by simp only [st_217, mf_e, en_b, and_true]; omega) rfl, (fun q hq => by cases hq), lo0_ok (r := [0]) rfl rfl rfl hlv5, trivial, hw3, kc (kn1 s123 (n := 2) (t := zh.toInt) rfl (by omega)) (kc (kn1 hc3 (n := 3) (t := ze.toInt) rfl (by omega)) (kc (kn1 s93 (n := 0) (t := 0) rfl (by omega)) k0)), fun _ _ _ _ h => h, fun h => by cases h⟩
          refine hseg (st := st_217) h21 rfl C gm2 (fun x2 hx2 r2' lv6 sk2 ws4 hx2' g2' => ?_)
          obtain ⟨k1, k2, -, k4, hw4, k6, f4, -⟩ := g2'
          have y0 : r2'[0]? = some 0 := hx2'.at rfl
          have y2 : r2'[2]? = some zh.toInt := hx2'.at rfl
          have y3 : r2'[3]? = some ze.toInt := hx2'.at rfl
          have hox2 := List.all_eq_true.mp h22 x2 hx2
          unfold st_217ok at hox2
          rw [Bool.and_eq_true, Bool.and_eq_true, ai_beq, Bool.or_eq_true] at hox2
          obtain ⟨hs2, p1, hox2⟩ := hox2
          have hsk2 : sk2 = [] := by
            rw [List.isEmpty_iff.mp hs2] at k4
            exact k4.nil
          subst hsk2
          have F4 : ai_fr st_WR ws ws4 := F3.tr (st_fr f4 (fun q hq => by
            rcases List.mem_cons.mp hq with rfl | hq
            · decide
            · rw [List.mem_singleton.mp hq]; decide))
          rw [p1]
          rcases hox2 with hox2 | hox2
          · rw [Bool.and_eq_true, Bool.and_eq_true] at hox2
            obtain ⟨hd, q9', q13⟩ := hox2
            obtain ⟨e0, b1, b2, b3⟩ := tn_dok k1 k2 y2 y3 hd
            rw [decide_eq_true_eq] at b1
            obtain ⟨zt, s13, e13⟩ := lkv k6 (decide_eq_true_eq.mp q13) y0
            obtain ⟨zb', s94, e9'⟩ := lkv k6 (decide_eq_true_eq.mp q9') y0
            have hnum := hnum (by omega)
            refine k ws4 lv6 2 zh.toInt.toNat ze.toInt.toNat (tp_num g zh.toInt.toNat ze.toInt.toNat) hw4 F4 ?_ (by omega) (by omega) (by rw [← hnum]; exact Int32.le_toInt _) (by rw [← hnum]; exact Int32.toInt_le _) ⟨fun h => absurd h (by decide), fun _ => ⟨zb', ze, zh, zt, zw, s94, by omega, f4 49 11 _ (by decide) hc3, by omega, f4 49 12 _ (by decide) s123, by omega, s13, by omega, f4 49 14 _ (by decide) hv3, hnum⟩⟩
            unfold sp_tok
            rw [eF, if_neg (by omega), if_neg (by omega), if_neg (fun hc => by have := tp_i_iff.mp hc; omega), if_pos (tp_i_iff.mpr i0), eE, if_neg (by omega)]
          · rw [Bool.and_eq_true, Bool.and_eq_true] at hox2
            obtain ⟨hd, q9', q10⟩ := hox2
            obtain ⟨e0, b1, b2, b3⟩ := tn_dok k1 k2 y2 y3 hd
            rw [decide_eq_true_eq] at b1
            obtain ⟨za, s10, e10⟩ := lkv k6 (decide_eq_true_eq.mp q10) y2
            obtain ⟨zb', s94, e9'⟩ := lkv k6 (decide_eq_true_eq.mp q9') y0
            refine k ws4 lv6 4 zh.toInt.toNat ze.toInt.toNat 0 hw4 F4 ?_ (by omega) (by omega) (by decide) (by decide) ⟨fun _ => ⟨zb', za, s94, by omega, s10, by omega⟩, fun h => absurd rfl h⟩
            unfold sp_tok
            rw [eF, if_neg (by omega), if_neg (by omega), if_neg (fun hc => by have := tp_i_iff.mp hc; omega), if_pos (tp_i_iff.mpr i0), eE, if_pos (by omega)]
end STA
end
section
/-! step as a known method: five ends, each with its token over w0's tape, where the two tapes are alike -/
theorem tp_num_congrN {g g' : Nat → Int} {n f e : Nat} (he : e ≤ n) (h2 : ¬ 2 < e - f) (h : ∀ i, i < n → g i = g' i) : tp_num g f e = tp_num g' f e := by
  unfold tp_num
  split
  · rfl
  · split
    · rw [h f (by omega)]
    · rw [h f (by omega), h (f + 1) (by omega)]
theorem sp_tok_congrN {g g' : Nat → Int} {n p : Nat} (h : ∀ i, i < n → g i = g' i) : sp_tok g n p = sp_tok g' n p := by
  have e : ∀ (lo hi : Int) (q : Nat), tp_skip g n lo hi q = tp_skip g' n lo hi q := fun lo hi q => tp_skip_congr h
  unfold sp_tok
  simp only [e]
  generalize tp_skip g' n 32 32 p = F
  by_cases hF : n ≤ F
  · rw [if_pos hF, if_pos hF]
  · rw [if_neg hF, if_neg hF, h F (by omega)]
    have hle := (tp_skip_le (g := g') (n := n) (p := F) (lo := 48) (hi := 57)).2 (by omega)
    by_cases h2 : 2 < tp_skip g' n 48 57 F - F
    · rw [if_pos h2, if_pos h2]
    · rw [if_neg h2, if_neg h2, tp_num_congrN hle h2 h]
theorem tape_one {w0 : va_W} {g g' : Nat → Int} (h : fx_tape w0 g) (h' : fx_tape w0 g') (i : Nat) (hi : i < 160) : g i = g' i := by
  have := (h i hi).symm.trans (h' i hi)
  exact Option.some.inj this
def st_fact (sb : List ai_b) (n : Nat) : Bool := sb.any fun q => Nat.beq q.1 350 && Nat.beq q.2.1 n
theorem st_factok {w0 : va_W} {r : List Int} {sb : List ai_b} {n : Nat} {zn : Int} (g2 : ai_sb w0 r sb) (hn : r[n]? = some zn) (h : st_fact sb n = true) : ∃ g : Nat → Int, fx_tape w0 g ∧ ∀ i, i < zn.toNat → fx_o w0 52 i = some (g i) := by
  obtain ⟨q, hq, h⟩ := List.any_eq_true.mp h
  rw [Bool.and_eq_true, ai_beq, ai_beq] at h
  obtain ⟨-, -, -, -, -, -, -, -, -, -, -, e9⟩ := g2 q hq
  obtain ⟨z, g, a1, a2, a3⟩ := (e9 (by omega)).2.2.2 h.1
  rw [h.2, hn] at a1
  cases a1
  exact ⟨g, a2, a3⟩
def st_kn (st : ai_s) (t : Nat) : List ai_k := (if Nat.beq t 4 = true then [(49, 9, (1, 0, 0, 1)), (49, 10, (1, st.2.2.2.1.length, 0, 0))] else [(49, 9, (1, 0, 0, 0)), (49, 11, (1, st.2.2.2.1.length + 1, 0, 0)), (49, 12, (1, st.2.2.2.1.length, 0, 0)), (49, 13, (1, 0, 0, (t : Int))), (49, 14, (1, st.2.2.2.1.length + 2, 0, 0))]) ++ ai_dr st.2.2.2.2.1 49 9 14
def st_end (st : ai_s) (v w : ai_v) (t : Nat) : ai_s := (269, [], [], av_en st.2.2.2.1, st_kn st t, (300 + t, v.2.1, w.2.1, st.2.2.2.1.length, v.2.2.2) :: st.2.2.2.2.2)
def su_st (WR : List (Nat × Nat × Nat)) (st : ai_s) : Option (List ai_s) :=
  (ai_lk st.2.2.2.2.1 49 11).bind fun v => (ai_lk st.2.2.2.2.1 49 7).bind fun w => (ai_lk st.2.2.2.2.1 49 9).bind fun u =>
    if v.1 = 1 ∧ w.1 = 1 ∧ w.2.2.2 = 0 ∧ u = (1, 0, 0, 0) ∧ st.2.1 = ms_lo ∧ st.2.2.1 = [] ∧ ((List.range 6).all fun i => ai_wr WR 49 (9 + i) (9 + i)) = true ∧ nowr WR 52 = true ∧ ai_z st.2.2.2.1 = true ∧ st_fact st.2.2.2.2.2 w.2.1 = true then
      some ((List.range 5).map (st_end st v w)) else none
theorem wrS {k j : Nat} (h : ¬ (k = 49 ∧ 9 ≤ j ∧ j ≤ 14)) : ai_wr st_WR k j j = false := by
  unfold ai_wr st_WR
  rw [List.any_eq_false]
  intro q hq hx
  rw [List.mem_singleton.mp hq] at hx
  simp only [Bool.and_eq_true, Bool.or_eq_true, decide_eq_true_eq] at hx
  omega
theorem fx_g52 {ad : List Nat} {tys : ai_ty} {ws : va_W} (h : ai_wd tb_TY ad tys ws) (i : Nat) (hi : i < 160) : fx_o ws 52 i = some (fx_at ws 52 i) := by
  obtain ⟨t, ht⟩ := fx_has (k := 52) h rfl hi
  unfold fx_at
  rw [ht]
  rfl
theorem su_st_ok {WR : List (Nat × Nat × Nat)} {d : Nat} {st : ai_s} {xs : List ai_s} (hq : su_st WR st = some xs) (h0 : st.1 = 0) (hd : 5 ≤ d) {w0 : va_W} {ad : List Nat} {p : Program} {l : Launch} {e : Env} {R : Room} {s : State} {m : MethodId} {args : Array Value} {below : List Frame} {meth : Method} {c : Code} {D : va_G} {tys : ai_ty} {A : Nat → Prop} {b L : Nat} {sx : Nat → Int32} {cells slots : Nat} {Q : State → Prop} {r0 : List Int}
    (C : ai_cx tb_m104 d p R s m args c D tys A b L sx cells slots) (k : ∀ x ∈ xs, ai_G tb_TY WR w0 ad tb_m104 p l e R s m args below meth c D tys A b L sx cells slots Q r0 x) : ai_G tb_TY WR w0 ad tb_m104 p l e R s m args below meth c D tys A b L sx cells slots Q r0 st := by
  unfold su_st at hq
  obtain ⟨v, v1, hq⟩ := Option.bind_eq_some_iff.mp hq
  obtain ⟨w, w1, hq⟩ := Option.bind_eq_some_iff.mp hq
  obtain ⟨u, u1, hq⟩ := Option.bind_eq_some_iff.mp hq
  split at hq
  · rename_i hc
    obtain ⟨c1, c2, c3, c4, c5, c6, c7, c8, c9, c10⟩ := hc
    injection hq with hq
    subst hq
    intro r lv sk ws H locs ls hx g hP hD hS hl
    obtain ⟨g1, g2, g3, g4, g5, g6, g7, g8⟩ := g
    have hsk : sk = [] := by rw [c6] at g4; exact g4.nil
    subst hsk
    rw [h0]
    obtain ⟨x1, s1, d1⟩ := ai_lk_ok g6 v1
    obtain ⟨x2, s2, d2⟩ := ai_lk_ok g6 w1
    obtain ⟨zp, rfl⟩ : ∃ i : Int32, x1 = .int i := by
      rcases d1 with ⟨q, -⟩ | ⟨-, z, i, -, q2, -⟩ | ⟨q, -⟩ | ⟨q, -⟩ | ⟨q, -⟩
      · omega
      · exact ⟨i, q2⟩
      all_goals omega
    obtain ⟨zn, rfl⟩ : ∃ i : Int32, x2 = .int i := by
      rcases d2 with ⟨q, -⟩ | ⟨-, z, i, -, q2, -⟩ | ⟨q, -⟩ | ⟨q, -⟩ | ⟨q, -⟩
      · omega
      · exact ⟨i, q2⟩
      all_goals omega
    obtain ⟨za, a1, a2⟩ := ai_dv1 d1 c1
    obtain ⟨zb, b1, b2⟩ := ai_dv1 d2 c2
    rw [c3] at b2
    have r00 : r[0]? = some 0 := ai_z_ok g1 c9
    obtain ⟨zo, s3, o3⟩ := lkv g6 (by rw [u1, c4]) r00
    obtain ⟨n0, n1⟩ := f49 (i := 7) g5 s2 rfl
    obtain ⟨i0, i1⟩ := f49 (i := 11) g5 s1 rfl
    obtain ⟨g0, t1, t2⟩ := st_factok g2 b1 c10
    have hr1 : r.length = st.2.2.2.1.length := g1.1
    refine st_all (g := fx_at ws 52) (mm_cx hd C) g5 s2 s1 s3 (by omega) (fx_g52 g5) (lo0_ok r00 rfl rfl (by rw [← c5]; exact g3)) (fun ws' lv' t f en vv hw' hf htok f1 e1 v0 v1 his => ?_) H locs ls hP hD hS hl
    intro H' locs' ls' hP' hD' hS' hl'
    obtain ⟨t4, -⟩ := sp_tok_ok htok
    have hx3 : ai_x r (((r ++ [(f : Int)]) ++ [(en : Int)]) ++ [vv]) := (ai_x.push.tr ai_x.push).tr ai_x.push
    obtain ⟨q1, q2, q3⟩ := r3_at (a := (f : Int)) (b := (en : Int)) (c := vv) hr1
    refine k _ (List.mem_map.mpr ⟨t, List.mem_range.mpr (by omega), rfl⟩) (((r ++ [(f : Int)]) ++ [(en : Int)]) ++ [vv]) [] [] ws' H' locs' ls' (hx.tr hx3) ⟨((g1.nu (by omega) (by omega)).nu (by omega) (by omega)).nu v0 v1, ?_, trivial, trivial, hw', ?_, ?_, fun h => by cases h⟩ hP' hD' hS' ⟨hl'.1, hl'.2.1, fun q hq => by cases hq⟩
    · intro q hq
      rcases List.mem_cons.mp hq with rfl | hq
      · refine ⟨za, zb, (f : Int), hx3.at a1, hx3.at b1, q1, fun h => absurd (show 300 + t = 0 from h) (by omega), fun h => absurd (show 300 + t = 1 from h) (by omega), fun h => absurd (show 300 + t = 2 from h) (by omega), fun h => absurd (show 300 + t = 4 from h) (by omega), fun h => absurd (show 300 + t = 5 from h) (by omega), fun _ => ⟨fun h => absurd (show 1000 ≤ 300 + t from h) (by omega), fun h => absurd (show 300 + t < 300 ∨ (500 ≤ 300 + t ∧ 300 + t < 1000) from h) (by omega), fun g hg => ⟨fun _ _ => ⟨za, zb, (f : Int), (en : Int), vv, hx3.at a1, hx3.at b1, q1, q2, q3, by show 0 ≤ za + v.2.2.2; omega, by omega, by omega, ?_⟩, fun h => absurd (show 310 ≤ 300 + t from h) (by omega), fun h => absurd (show 320 ≤ 300 + t from h) (by omega), fun h => absurd (show 400 ≤ 300 + t from h) (by omega), fun h => absurd (show 300 + t = 330 from h) (by omega)⟩, fun h => absurd (show 300 + t = 350 from h) (by omega)⟩⟩
        show sp_tok g zb.toNat (za + v.2.2.2).toNat = (300 + t - 300, ((f : Int)).toNat, ((en : Int)).toNat, vv)
        rw [Nat.add_sub_cancel_left, Int.toNat_natCast, Int.toNat_natCast, ← htok, ← a2, show zb = zn.toInt by omega]
        refine sp_tok_congrN (fun i hi => ?_)
        have k1 := t2 i (by omega)
        have k2 := fr_fx (k := 52) g5 rfl g7 (nowr_ok c8 i i) k1
        rw [tape_one hg t1 i (by omega)]
        unfold fx_at
        rw [k2]
        rfl
      · exact g2.mono hx3 q hq
    · intro q hq
      have hq : q ∈ st_kn st t := hq
      unfold st_kn at hq
      rcases List.mem_append.mp hq with hq | hq
      · split at hq
        · rename_i ht
          obtain ⟨zb', za', k1, k2, k3, k4⟩ := his.1 (ai_beq.mp ht)
          rcases List.mem_cons.mp hq with rfl | hq
          · exact kn1 k1 (n := 0) (hx3.at r00) (by omega)
          · rw [List.mem_singleton.mp hq]
            exact kn1 k3 (n := st.2.2.2.1.length) q1 (by omega)
        · rename_i ht
          obtain ⟨zb', zs, zh, zt, zv, k1, k2, k3, k4, k5, k6, k7, k8, k9, k10⟩ := his.2 (fun h => ht (ai_beq.mpr h))
          rcases List.mem_cons.mp hq with rfl | hq
          · exact kn1 k1 (n := 0) (hx3.at r00) (by omega)
          · rcases List.mem_cons.mp hq with rfl | hq
            · exact kn1 k3 (n := st.2.2.2.1.length + 1) q2 (by omega)
            · rcases List.mem_cons.mp hq with rfl | hq
              · exact kn1 k5 (n := st.2.2.2.1.length) q1 (by omega)
              · rcases List.mem_cons.mp hq with rfl | hq
                · exact kn1 k7 (n := 0) (hx3.at r00) (by omega)
                · rw [List.mem_singleton.mp hq]
                  exact kn1 k9 (n := st.2.2.2.1.length + 2) q3 (by omega)
      · obtain ⟨k1, k2⟩ := dr_outR hq
        obtain ⟨x, k3, k4⟩ := g6 q k1
        exact ⟨x, hf _ _ _ (wrS k2) k3, k4.mono hx3⟩
    · intro cc i x hwr hsl
      refine hf cc i x (wrS (fun h => ?_)) (g7 cc i x hwr hsl)
      obtain ⟨i1, i2, i3⟩ := h
      have c7 := List.all_eq_true.mp c7 (i - 9) (List.mem_range.mpr (by omega))
      rw [show 9 + (i - 9) = i by omega, ← i1, hwr] at c7
      cases c7
  · cases hq
end
section
/-! isWord, wordRead: which word -/
theorem sp_is_iff {g : Nat → Int} {f e : Nat} {w : List Int} : sp_is g f e w = true ↔ e - f = w.length ∧ ∀ k, k < w.length → w[k]? = some (g (f + k)) := by
  unfold sp_is
  rw [Bool.and_eq_true, decide_eq_true_eq, List.all_eq_true]
  refine ⟨fun h => ⟨h.1, fun k hk => decide_eq_true_eq.mp (h.2 k (List.mem_range.mpr hk))⟩, fun h => ⟨h.1, fun k hk => decide_eq_true_eq.mpr (h.2 k (List.mem_range.mp hk))⟩⟩
theorem sp_is_congr {g g' : Nat → Int} {f e : Nat} {w : List Int} (h : ∀ i, f ≤ i → i < e → g i = g' i) : sp_is g f e w = sp_is g' f e w := by
  rw [Bool.eq_iff_iff, sp_is_iff, sp_is_iff]
  refine ⟨fun k => ⟨k.1, fun i hi => by rw [k.2 i hi, h (f + i) (by omega) (by omega)]⟩, fun k => ⟨k.1, fun i hi => by rw [k.2 i hi, h (f + i) (by omega) (by omega)]⟩⟩
def sp_P (P : List Int → Bool) : Nat := if P (sp_W.getD 0 []) = true then 0 else if P (sp_W.getD 1 []) = true then 1 else if P (sp_W.getD 2 []) = true then 2 else if P (sp_W.getD 3 []) = true then 3 else if P (sp_W.getD 4 []) = true then 4 else if P (sp_W.getD 5 []) = true then 5 else if P (sp_W.getD 6 []) = true then 6 else 7
theorem sp_word_P {g : Nat → Int} {f e : Nat} : sp_word g f e = sp_P (sp_is g f e) := by
  unfold sp_word
  generalize sp_is g f e = P
  show (if P (sp_W.getD 0 []) = true then some 0 else if P (sp_W.getD 1 []) = true then some 1 else if P (sp_W.getD 2 []) = true then some 2 else if P (sp_W.getD 3 []) = true then some 3 else if P (sp_W.getD 4 []) = true then some 4 else if P (sp_W.getD 5 []) = true then some 5 else if P (sp_W.getD 6 []) = true then some 6 else (none : Option Nat)).getD 7 = sp_P P
  unfold sp_P
  by_cases h0 : P (sp_W.getD 0 []) = true
  · rw [if_pos h0, if_pos h0]; rfl
  rw [if_neg h0, if_neg h0]
  by_cases h1 : P (sp_W.getD 1 []) = true
  · rw [if_pos h1, if_pos h1]; rfl
  rw [if_neg h1, if_neg h1]
  by_cases h2 : P (sp_W.getD 2 []) = true
  · rw [if_pos h2, if_pos h2]; rfl
  rw [if_neg h2, if_neg h2]
  by_cases h3 : P (sp_W.getD 3 []) = true
  · rw [if_pos h3, if_pos h3]; rfl
  rw [if_neg h3, if_neg h3]
  by_cases h4 : P (sp_W.getD 4 []) = true
  · rw [if_pos h4, if_pos h4]; rfl
  rw [if_neg h4, if_neg h4]
  by_cases h5 : P (sp_W.getD 5 []) = true
  · rw [if_pos h5, if_pos h5]; rfl
  rw [if_neg h5, if_neg h5]
  by_cases h6 : P (sp_W.getD 6 []) = true
  · rw [if_pos h6, if_pos h6]; rfl
  rw [if_neg h6, if_neg h6]
  rfl
theorem sp_P_at {P : List Int → Bool} {j : Nat} (hj : j ≤ 7) (h : ∀ i, i < j → P (sp_W.getD i []) = false) (h1 : j < 7 → P (sp_W.getD j []) = true) : sp_P P = j := by
  have n : ∀ i, i < j → ¬ P (sp_W.getD i []) = true := fun i hi hc => by rw [h i hi] at hc; cases hc
  unfold sp_P
  match j, hj, h1, n with
  | 0, _, h1, n => rw [if_pos (h1 (by decide))]
  | 1, _, h1, n => rw [if_neg (n 0 (by decide)), if_pos (h1 (by decide))]
  | 2, _, h1, n => rw [if_neg (n 0 (by decide)), if_neg (n 1 (by decide)), if_pos (h1 (by decide))]
  | 3, _, h1, n => rw [if_neg (n 0 (by decide)), if_neg (n 1 (by decide)), if_neg (n 2 (by decide)), if_pos (h1 (by decide))]
  | 4, _, h1, n => rw [if_neg (n 0 (by decide)), if_neg (n 1 (by decide)), if_neg (n 2 (by decide)), if_neg (n 3 (by decide)), if_pos (h1 (by decide))]
  | 5, _, h1, n => rw [if_neg (n 0 (by decide)), if_neg (n 1 (by decide)), if_neg (n 2 (by decide)), if_neg (n 3 (by decide)), if_neg (n 4 (by decide)), if_pos (h1 (by decide))]
  | 6, _, h1, n => rw [if_neg (n 0 (by decide)), if_neg (n 1 (by decide)), if_neg (n 2 (by decide)), if_neg (n 3 (by decide)), if_neg (n 4 (by decide)), if_neg (n 5 (by decide)), if_pos (h1 (by decide))]
  | 7, _, h1, n => rw [if_neg (n 0 (by decide)), if_neg (n 1 (by decide)), if_neg (n 2 (by decide)), if_neg (n 3 (by decide)), if_neg (n 4 (by decide)), if_neg (n 5 (by decide)), if_neg (n 6 (by decide))]
  | j + 8, hj, _, _ => exact absurd hj (by omega)
theorem sp_P_le {P : List Int → Bool} : sp_P P ≤ 7 := by
  unfold sp_P
  repeat' split
  all_goals omega
theorem jw : ∀ i, i < 7 → (sp_W.getD i []).length = ai_JL.getD i 0 ∧ ∀ k, k < ai_JL.getD i 0 → (sp_W.getD i [])[k]? = some (ai_jb i k).toInt := by decide
theorem jw3 : ∀ i, i < 7 → 3 ≤ ai_JL.getD i 0 := by decide
set_option maxHeartbeats 1000000 in
theorem jd_is2 (l : Launch) {d : Nat} {D : va_G} {tys : ai_ty} {A : Nat → Prop} {aK aV : Nat → Nat} {H : Heap} {i : Nat} (hi : i < 7) (hd : 4 ≤ d) {ws : va_W} {a q27 t0 : Nat} {fs : List Value} {zt zf : Int32} {cA : ClassId} {f : Nat → Int32} (hP : va_P D vwCl ws H) (w1 : ws[26]? = some (a, .inr (2, fs))) (f0 : fs[0]? = some (.ref q27)) (f7 : fs[7]? = some (.int zt)) (f9 : fs[9]? = some (.int zf)) (b1 : 0 ≤ zf.toInt) (b2 : zt.toInt ≤ 160) (b3 : 0 ≤ zt.toInt) (b4 : zf.toInt ≤ 160) (w2 : ws[27]? = some (q27, .inl (cA, 160, .inl f))) (ht : tys[t0]? = some (cA, .int)) : Met l yX2_isWord (ai_ws jm_is) (ai_rm d) (va_Pc [.ref a, .ref (aK i)] (jd_P D tys A aK aV H)) (jd_Q H (fun v => (v = some (.int 0) ∧ sp_is (fun n => (f n).toInt) zf.toInt.toNat zt.toInt.toNat (sp_W.getD i []) = false) ∨ (v = some (.int 1) ∧ sp_is (fun n => (f n).toInt) zf.toInt.toNat zt.toInt.toNat (sp_W.getD i []) = true))) 0 0 A := by
  refine jd_met (M := jm_is) l (by decide) (by first | exact Nat.le_refl _ | exact Nat.le_of_ble_eq_true rfl) ?_
  intro p e s m below meth c ls C hH hr hlk hl
  have hS : va_S A s.heap s.heap [] := va_S.rf
  have hr : meth.sig.returnType = (some .boolean) := hr
  subst hH
  obtain ⟨hb1, -⟩ := jd_b i hi
  obtain ⟨jw1, jw2⟩ := jw i hi
  have hl : lv_has ls 3 [(0, .ref a), (1, .ref (aK i))] := hl
  generalize hN : ai_JL.getD i 0 = N at hb1 jw1 jw2
  have hNI : (Int32.ofNat N).toInt = (N : Int) := nI_toInt (by omega)
  have loop : Int32.ofNat N = zt - zf → ∀ (n k : Nat), k + n = N → (∀ j, j < k → (f (zf.toInt.toNat + j)).toInt = (ai_jb i j).toInt) → ∀ (ls : Array Slot) (locs : List Loc), lv_has ls 3 [(2, .int (Int32.ofNat k)), (0, .ref a), (1, .ref (aK i))] → va_S A s.heap s.heap locs → W p l e (ai_rm d) s m ([Value.ref a, Value.ref (aK i)] : List Value).toArray below meth c s.heap locs 0 0 (MQ below (jd_Q s.heap (fun v => (v = some (.int 0) ∧ sp_is (fun n => (f n).toInt) zf.toInt.toNat zt.toInt.toNat (sp_W.getD i []) = false) ∨ (v = some (.int 1) ∧ sp_is (fun n => (f n).toInt) zf.toInt.toNat zt.toInt.toNat (sp_W.getD i []) = true))) ([Value.ref a, Value.ref (aK i)] : List Value).toArray s 0 0 A) (F0 m 20 ls []) := by
    intro heq n
    have hsub : (zt - zf).toInt = zt.toInt - zf.toInt := ai_subI (by omega) (by omega)
    have hNz : (N : Int) = zt.toInt - zf.toInt := by rw [← hsub, ← heq, hNI]
    induction n with
    | zero =>
      intro k hk hpre ls locs hl hS
      refine lv_iload_n C.x C.b (by decide +kernel : decode cX2_isWord 20 = .ok (.iload_n 2, 1)) rfl (lv_at hl 0 rfl) ?_
      refine lv_aload_n C.x C.b (by decide +kernel : decode cX2_isWord 21 = .ok (.aload_n 1, 1)) rfl (lv_at hl 2 rfl) ?_
      refine jd_V (M' := jm_len) (As := []) (rest := [.int (Int32.ofNat k)]) C hS (by omega) (by decide) (Nat.le_of_ble_eq_true rfl) jg_len (by decide +kernel) (vk_recv C.J.1 hi hS) (jd_len l hi (by omega)) rfl hl.1 rfl (by decide +kernel : decode cX2_isWord 22 = .ok (.invokevirtual 141, 3)) (fun v locs1 hv hS1 => ?_)

      subst hv
      refine lv_icmp_ge C.x C.b (by decide +kernel : decode cX2_isWord 25 = .ok (.if_icmp .ge 30, 3)) (tgt := 55) (by decide) (fun _ => ?_) (fun h => absurd (by rw [hN, show k = N by omega]; exact Int32.le_refl _) h)
      refine lv_iconst C.x C.b (by decide +kernel : decode cX2_isWord 55 = .ok (.iconst 1, 1)) (v := 1) rfl ?_
      exact W.zret C.x C.b hr rfl (fun t ht hW => ⟨_, rfl, Or.inr ⟨rfl, sp_is_iff.mpr ⟨by rw [jw1]; omega, fun j hj => by rw [jw2 j (by omega), ← hpre j (by omega)]⟩⟩, ht⟩) hS1.2.2 (by decide +kernel : decode cX2_isWord 56 = .ok (.ireturn, 1)) hlk
    | succ n ih =>
      intro k hk hpre ls locs hl hS
      have hkN : k < ai_JL.getD i 0 := by rw [hN]; omega
      obtain ⟨i1, i2, i3, i4⟩ := jd_in (k := k) (N := N) (by omega) hb1
      refine lv_iload_n C.x C.b (by decide +kernel : decode cX2_isWord 20 = .ok (.iload_n 2, 1)) rfl (lv_at hl 0 rfl) ?_
      refine lv_aload_n C.x C.b (by decide +kernel : decode cX2_isWord 21 = .ok (.aload_n 1, 1)) rfl (lv_at hl 2 rfl) ?_
      refine jd_V (M' := jm_len) (As := []) (rest := [.int (Int32.ofNat k)]) C hS (by omega) (by decide) (Nat.le_of_ble_eq_true rfl) jg_len (by decide +kernel) (vk_recv C.J.1 hi hS) (jd_len l hi (by omega)) rfl hl.1 rfl (by decide +kernel : decode cX2_isWord 22 = .ok (.invokevirtual 141, 3)) (fun v locs1 hv hS1 => ?_)

      subst hv
      refine lv_icmp_ge C.x C.b (by decide +kernel : decode cX2_isWord 25 = .ok (.if_icmp .ge 30, 3)) (tgt := 55) (by decide) (fun h => absurd i2 (Int32.not_lt.mpr (by rw [← hN]; exact h))) (fun _ => ?_)
      refine lv_aload_n C.x C.b (by decide +kernel : decode cX2_isWord 28 = .ok (.aload_n 0, 1)) rfl (lv_at hl 1 rfl) ?_
      refine jd_get C jf_11 hP w1 f0 (by decide +kernel : decode cX2_isWord 29 = .ok (.getfield 11, 3)) ?_
      refine lv_aload_n C.x C.b (by decide +kernel : decode cX2_isWord 32 = .ok (.aload_n 0, 1)) rfl (lv_at hl 1 rfl) ?_
      refine jd_get C jf_68 hP w1 f9 (by decide +kernel : decode cX2_isWord 33 = .ok (.getfield 68, 3)) ?_
      refine lv_iload_n C.x C.b (by decide +kernel : decode cX2_isWord 36 = .ok (.iload_n 2, 1)) rfl (lv_at hl 0 rfl) ?_
      refine lv_iadd C.x C.b (by decide +kernel : decode cX2_isWord 37 = .ok (.iadd, 1)) ?_
      have hkI : (Int32.ofNat k).toInt = (k : Int) := nI_toInt (by omega)
      have hix : (zf + Int32.ofNat k).toInt = zf.toInt + k := by rw [ai_addI (by omega) (by omega), hkI]
      have hcl : (zf + Int32.ofNat k).toNatClampNeg = zf.toInt.toNat + k := by
        show (zf + Int32.ofNat k).toInt.toNat = _
        omega
      refine va_iald C.x C.b C.K hP 27 t0 w2 ht (vp_in_iff.mpr ⟨by omega, by omega⟩) (by decide +kernel : decode cX2_isWord 38 = .ok (.iaload, 1)) ?_
      refine lv_aload_n C.x C.b (by decide +kernel : decode cX2_isWord 39 = .ok (.aload_n 1, 1)) rfl (lv_at hl 2 rfl) ?_
      refine lv_iload_n C.x C.b (by decide +kernel : decode cX2_isWord 40 = .ok (.iload_n 2, 1)) rfl (lv_at hl 0 rfl) ?_
      refine jd_V (M' := jm_ca) (n := 1) (As := [.int (Int32.ofNat k)]) C hS1 (by omega) (by decide) (Nat.le_of_ble_eq_true rfl) jg_ca (by decide +kernel) (vk_recv C.J.1 hi hS1) (jd_ca l hi hkN (by omega)) rfl hl.1 rfl (by decide +kernel : decode cX2_isWord 41 = .ok (.invokevirtual 145, 3)) (fun v locs2 hv hS2 => ?_)
      subst hv
      refine lv_icmp_eq C.x C.b (by decide +kernel : decode cX2_isWord 44 = .ok (.if_icmp .eq 5, 3)) (tgt := 49) (by decide) (fun heq2 => ?_) (fun hne2 => ?_)
      · refine lv_iinc C.x C.b (by decide +kernel : decode cX2_isWord 49 = .ok (.iinc 2 1, 3)) hl (k := 0) rfl (v := Int32.ofNat (k + 1)) (nI_succ k).symm (by decide) (lv' := [(2, .int (Int32.ofNat (k + 1))), (0, .ref a), (1, .ref (aK i))]) rfl (fun ls3 hl3 => ?_)
        refine lv_goto C.x C.b (by decide +kernel : decode cX2_isWord 52 = .ok (.goto (-32), 3)) (tgt := 20) (by decide) ?_
        refine ih (k + 1) (by omega) (fun j hj => ?_) ls3 locs2 hl3 hS2
        by_cases hjk : j < k
        · exact hpre j hjk
        · have ejk : j = k := by omega
          subst ejk
          rw [← heq2, hcl]
      · refine lv_iconst C.x C.b (by decide +kernel : decode cX2_isWord 47 = .ok (.iconst 0, 1)) (v := 0) rfl ?_
        exact W.zret C.x C.b hr rfl (fun t ht hW => ⟨_, rfl, Or.inl ⟨rfl, by
          rw [Bool.eq_false_iff]
          intro hc
          have h3 := (sp_is_iff.mp hc).2 k (by omega)
          rw [jw2 k (by omega)] at h3
          have h3 := Option.some.inj h3
          exact hne2 (Int32.toInt_inj.mp (by rw [hcl]; exact h3.symm))⟩, ht⟩) hS2.2.2 (by decide +kernel : decode cX2_isWord 48 = .ok (.ireturn, 1)) hlk
  refine lv_aload_n C.x C.b (by decide +kernel : decode cX2_isWord 0 = .ok (.aload_n 1, 1)) rfl (lv_at hl 1 rfl) ?_
  refine jd_V (M' := jm_len) (As := []) (rest := []) C hS (by omega) (by decide) (Nat.le_of_ble_eq_true rfl) jg_len (by decide +kernel) (vk_recv C.J.1 hi hS) (jd_len l hi (by omega)) rfl hl.1 rfl (by decide +kernel : decode cX2_isWord 1 = .ok (.invokevirtual 141, 3)) (fun v locs1 hv hS1 => ?_)

  subst hv
  refine lv_aload_n C.x C.b (by decide +kernel : decode cX2_isWord 4 = .ok (.aload_n 0, 1)) rfl (lv_at hl 0 rfl) ?_
  refine jd_get C jf_41 hP w1 f7 (by decide +kernel : decode cX2_isWord 5 = .ok (.getfield 41, 3)) ?_
  refine lv_aload_n C.x C.b (by decide +kernel : decode cX2_isWord 8 = .ok (.aload_n 0, 1)) rfl (lv_at hl 0 rfl) ?_
  refine jd_get C jf_68 hP w1 f9 (by decide +kernel : decode cX2_isWord 9 = .ok (.getfield 68, 3)) ?_
  refine lv_isub C.x C.b (by decide +kernel : decode cX2_isWord 12 = .ok (.isub, 1)) ?_
  refine lv_icmp_eq C.x C.b (by decide +kernel : decode cX2_isWord 13 = .ok (.if_icmp .eq 5, 3)) (tgt := 18) (by decide) (fun heq => ?_) (fun hne => ?_)
  · refine lv_iconst C.x C.b (by decide +kernel : decode cX2_isWord 18 = .ok (.iconst 0, 1)) (v := 0) rfl ?_
    refine lv_istore_n C.x C.b (by decide +kernel : decode cX2_isWord 19 = .ok (.istore_n 2, 1)) (i := 2) rfl hl (by decide) (lv' := [(2, .int 0), (0, .ref a), (1, .ref (aK i))]) rfl (fun ls2 hl2 => ?_)
    exact loop (by rw [← hN]; exact heq) N 0 (by omega) (fun j hj => absurd hj (Nat.not_lt_zero _)) ls2 locs1 hl2 hS1
  · refine lv_iconst C.x C.b (by decide +kernel : decode cX2_isWord 16 = .ok (.iconst 0, 1)) (v := 0) rfl ?_
    exact W.zret C.x C.b hr rfl (fun t ht hW => ⟨_, rfl, Or.inl ⟨rfl, by
      rw [Bool.eq_false_iff]
      intro hc
      have h3 := (sp_is_iff.mp hc).1
      have hsub : (zt - zf).toInt = zt.toInt - zf.toInt := ai_subI (by omega) (by omega)
      have hN3 : 3 ≤ N := by rw [← hN]; exact jw3 i hi
      exact hne (Int32.toInt_inj.mp (by rw [hN, hNI, hsub]; omega))⟩, ht⟩) hS1.2.2 (by decide +kernel : decode cX2_isWord 17 = .ok (.ireturn, 1)) hlk
/-- wordRead, and which word it tells -/
theorem jd_wr2 {d : Nat} {p : Program} {l : Launch} {e : Env} {R : Room} {s : State} {m : MethodId} {args : Array Value} {below : List Frame} {meth : Method} {c : Code} {D : va_G} {tys : ai_ty} {A : Nat → Prop} {aK aV : Nat → Nat} {H : Heap} {locs : List Loc} {cells slots : Nat} {Q : State → Prop} {ls : Array Slot} (C : jd_C tb_m37 d p R s m args c D tys A aK aV cells slots) (h6 : 6 ≤ d) (hS : va_S A s.heap H locs) {ws : va_W} {a q27 t0 : Nat} {fs : List Value} {zt zf : Int32} {cA : ClassId} {f : Nat → Int32} (hP : va_P D vwCl ws H) (w1 : ws[26]? = some (a, .inr (2, fs))) (f0 : fs[0]? = some (.ref q27)) (f7 : fs[7]? = some (.int zt)) (f9 : fs[9]? = some (.int zf)) (b1 : 0 ≤ zf.toInt) (b2 : zt.toInt ≤ 160) (b3 : 0 ≤ zt.toInt) (b4 : zf.toInt ≤ 160) (w2 : ws[27]? = some (q27, .inl (cA, 160, .inl f))) (ht : tys[t0]? = some (cA, .int))
    (hl : lv_has ls 2 [(0, .ref a)]) (k1 : ∀ (j : Nat) (ls : Array Slot) (locs : List Loc), j < 7 → sp_word (fun n => (f n).toInt) zf.toInt.toNat zt.toInt.toNat = j → lv_has ls 2 [] → va_S A s.heap H locs → W p l e R s m args below meth c H locs cells slots Q (F0 m 20 ls [.int (Int32.ofNat j)])) (k2 : ∀ (ls : Array Slot) (locs : List Loc), sp_word (fun n => (f n).toInt) zf.toInt.toNat zt.toInt.toNat = 7 → lv_has ls 2 [] → va_S A s.heap H locs → W p l e R s m args below meth c H locs cells slots Q (F0 m 29 ls [.int 7])) : W p l e R s m args below meth c H locs cells slots Q (F0 m 0 ls []) := by
  have loop : ∀ (n j : Nat), j + n = 7 → (∀ i, i < j → sp_is (fun n => (f n).toInt) zf.toInt.toNat zt.toInt.toNat (sp_W.getD i []) = false) → ∀ (ls : Array Slot) (locs : List Loc), lv_has ls 2 [(1, .int (Int32.ofNat j)), (0, .ref a)] → va_S A s.heap H locs → W p l e R s m args below meth c H locs cells slots Q (F0 m 2 ls []) := by
    intro n
    induction n with
    | zero =>
      intro j hj hpre ls locs hl hS
      have e7 : j = 7 := by omega
      subst e7
      refine lv_iload_n C.x C.b (by decide +kernel : decode cX2_wordRead 2 = .ok (.iload_n 1, 1)) rfl (lv_at hl 0 rfl) ?_
      refine lv_bipush C.x C.b (by decide +kernel : decode cX2_wordRead 3 = .ok (.bipush 7, 2)) (v := 7) rfl ?_
      refine lv_icmp_ge C.x C.b (by decide +kernel : decode cX2_wordRead 5 = .ok (.if_icmp .ge 22, 3)) (tgt := 27) (by decide) (fun _ => ?_) (fun h => absurd (by decide) h)
      refine lv_bipush C.x C.b (by decide +kernel : decode cX2_wordRead 27 = .ok (.bipush 7, 2)) (v := 7) rfl ?_
      exact k2 ls locs (by rw [sp_word_P]; exact sp_P_at (by decide) hpre (fun h => absurd h (by decide))) (lv_sub hl [] rfl) hS
    | succ n ih =>
      intro j hj hpre ls locs hl hS
      have hi : j < 7 := by omega
      have hjI : (Int32.ofNat j).toInt = (j : Int) := nI_toInt (by omega)
      refine lv_iload_n C.x C.b (by decide +kernel : decode cX2_wordRead 2 = .ok (.iload_n 1, 1)) rfl (lv_at hl 0 rfl) ?_
      refine lv_bipush C.x C.b (by decide +kernel : decode cX2_wordRead 3 = .ok (.bipush 7, 2)) (v := 7) rfl ?_
      refine lv_icmp_ge C.x C.b (by decide +kernel : decode cX2_wordRead 5 = .ok (.if_icmp .ge 22, 3)) (tgt := 27) (by decide) (fun h => absurd h (nI_ge hi (by decide))) (fun _ => ?_)
      refine lv_aload_n C.x C.b (by decide +kernel : decode cX2_wordRead 8 = .ok (.aload_n 0, 1)) rfl (lv_at hl 1 rfl) ?_
      refine lv_iload_n C.x C.b (by decide +kernel : decode cX2_wordRead 9 = .ok (.iload_n 1, 1)) rfl (lv_at hl 0 rfl) ?_
      refine jd_S (M' := jm_sp) (n := 1) (As := [.int (Int32.ofNat j)]) (rest := [.ref a]) C hS (by omega) (by decide) (Nat.le_of_ble_eq_true rfl) jg_sp (by decide +kernel) (jd_sp l hi) rfl hl.1 rfl (by decide +kernel : decode cX2_wordRead 10 = .ok (.invokestatic 133, 3)) (fun v locs1 hv hS1 => ?_)
      subst hv
      refine jd_V (M' := jm_is) (n := 1) (As := [.ref (aK j)]) (rest := []) C hS1 (by omega) (by decide) (Nat.le_of_ble_eq_true rfl) jg_is (by decide +kernel) (va_recv C.K hP (q := (RX2, TX2, 11)) rfl w1) (jd_is2 l hi (by omega) hP w1 f0 f7 f9 b1 b2 b3 b4 w2 ht) rfl hl.1 rfl (by decide +kernel : decode cX2_wordRead 13 = .ok (.invokevirtual 137, 3)) (fun v locs2 hv hS2 => ?_)
      rcases hv with ⟨hv, hno⟩ | ⟨hv, hyes⟩
      · subst hv
        refine lv_if_eq C.x C.b (by decide +kernel : decode cX2_wordRead 16 = .ok (.ifCond .eq 5, 3)) (tgt := 21) (by decide) (fun _ => ?_) (fun h => absurd rfl h)
        refine lv_iinc C.x C.b (by decide +kernel : decode cX2_wordRead 21 = .ok (.iinc 1 1, 3)) hl (k := 0) rfl (v := Int32.ofNat (j + 1)) (nI_succ j).symm (by decide) (lv' := [(1, .int (Int32.ofNat (j + 1))), (0, .ref a)]) rfl (fun ls3 hl3 => ?_)
        refine lv_goto C.x C.b (by decide +kernel : decode cX2_wordRead 24 = .ok (.goto (-22), 3)) (tgt := 2) (by decide) ?_
        refine ih (j + 1) (by omega) (fun i hij => ?_) ls3 locs2 hl3 hS2
        by_cases hijj : i < j
        · exact hpre i hijj
        · rw [show i = j by omega]
          exact hno
      · subst hv
        refine lv_if_eq C.x C.b (by decide +kernel : decode cX2_wordRead 16 = .ok (.ifCond .eq 5, 3)) (tgt := 21) (by decide) (fun h => absurd h (by decide)) (fun _ => ?_)
        refine lv_iload_n C.x C.b (by decide +kernel : decode cX2_wordRead 19 = .ok (.iload_n 1, 1)) rfl (lv_at hl 0 rfl) ?_
        exact k1 j ls locs2 hi (by rw [sp_word_P]; exact sp_P_at (by omega) hpre (fun _ => hyes)) (lv_sub hl [] rfl) hS2
  refine lv_iconst C.x C.b (by decide +kernel : decode cX2_wordRead 0 = .ok (.iconst 0, 1)) (v := 0) rfl ?_
  refine lv_istore_n C.x C.b (by decide +kernel : decode cX2_wordRead 1 = .ok (.istore_n 1, 1)) (i := 1) rfl hl (by decide) (lv' := [(1, .int 0), (0, .ref a)]) rfl (fun ls2 hl2 => ?_)
  exact loop 7 0 rfl (fun i hi => absurd hi (Nat.not_lt_zero _)) ls2 locs hl2 hS
end
section
/-! wordRead as a known method, where the word is told -/
def wf (sb : List ai_b) (f e : Nat) : Option ai_b := sb.find? fun q => Nat.ble 310 q.1 && (Nat.blt q.1 318 && (Nat.beq q.2.1 f && Nat.beq q.2.2.1 e))
theorem wf_ok {w0 : va_W} {r : List Int} {sb : List ai_b} {g : Nat → Int} {f e : Nat} {q : ai_b} {zf ze : Int} (g2 : ai_sb w0 r sb) (hg : fx_tape w0 g) (hf : r[f]? = some zf) (he : r[e]? = some ze) (h : wf sb f e = some q) : 310 ≤ q.1 ∧ q.1 < 318 ∧ (if q.1 = 310 then ∃ zw : Int, r[q.2.2.2.1]? = some zw ∧ zw = ((sp_word g zf.toNat ze.toNat : Nat) : Int) ∧ zw < 4 else sp_word g zf.toNat ze.toNat = q.1 - 310) := by
  have hq := List.mem_of_find?_eq_some h
  have hc := List.find?_some h
  rw [Bool.and_eq_true, Bool.and_eq_true, Bool.and_eq_true, ai_beq, ai_beq] at hc
  obtain ⟨c1, c2, c3, c4⟩ := hc
  have c1 := Nat.le_of_ble_eq_true c1
  have c2 : q.1 < 318 := Nat.le_of_ble_eq_true c2
  obtain ⟨-, -, -, -, -, -, -, -, -, -, -, e9⟩ := g2 q hq
  obtain ⟨zf', ze', a1, a2, -, -, a5⟩ := ((e9 (by omega)).2.2.1 g hg).2.1 c1 c2
  rw [c3, hf] at a1
  rw [c4, he] at a2
  cases a1
  cases a2
  exact ⟨c1, c2, a5⟩
def st_tape (sb : List ai_b) : Bool := sb.any fun q => Nat.beq q.1 350
theorem st_tapeok {w0 : va_W} {r : List Int} {sb : List ai_b} (g2 : ai_sb w0 r sb) (h : st_tape sb = true) : ∃ g : Nat → Int, fx_tape w0 g := by
  obtain ⟨q, hq, h⟩ := List.any_eq_true.mp h
  have h := ai_beq.mp h
  obtain ⟨-, -, -, -, -, -, -, -, -, -, -, e9⟩ := g2 q hq
  obtain ⟨z, g, a1, a2, a3⟩ := (e9 (by omega)).2.2.2 h
  exact ⟨g, a2⟩
theorem sp_word_congr {g g' : Nat → Int} {f e : Nat} (h : ∀ i, f ≤ i → i < e → g i = g' i) : sp_word g f e = sp_word g' f e := by
  rw [sp_word_P, sp_word_P]
  have : sp_is g f e = sp_is g' f e := funext fun w => sp_is_congr h
  rw [this]
def wf_v (q : ai_b) : ai_v := if Nat.beq q.1 310 = true then (1, q.2.2.2.1, 0, 0) else (1, 0, 0, ((q.1 - 310 : Nat) : Int))
theorem wf_vok {ad : List Nat} {b : Nat} {g : Nat → Int} {r : List Int} {q : ai_b} {zf ze : Int} {j : Nat} (hj : j < 2147483648) (h0 : r[0]? = some 0) (hw : sp_word g zf.toNat ze.toNat = j) (h : if q.1 = 310 then ∃ zw : Int, r[q.2.2.2.1]? = some zw ∧ zw = ((sp_word g zf.toNat ze.toNat : Nat) : Int) ∧ zw < 4 else sp_word g zf.toNat ze.toNat = q.1 - 310) : ai_dv ad b r (wf_v q) (.int (Int32.ofNat j)) := by
  have hjI : (Int32.ofNat j).toInt = (j : Int) := nI_toInt (by omega)
  unfold wf_v
  split
  · rename_i hq
    rw [if_pos (ai_beq.mp hq)] at h
    obtain ⟨zw, a1, a2, a3⟩ := h
    exact Or.inr (Or.inl ⟨rfl, zw, _, a1, rfl, by show (Int32.ofNat j).toInt = zw + 0; omega⟩)
  · rename_i hq
    rw [if_neg (fun hc => hq (ai_beq.mpr hc))] at h
    exact Or.inr (Or.inl ⟨rfl, 0, _, h0, rfl, by show (Int32.ofNat j).toInt = 0 + ((q.1 - 310 : Nat) : Int); omega⟩)
def su_wr (WR : List (Nat × Nat × Nat)) (st : ai_s) : Option (List ai_s) :=
  (ai_lk st.2.2.2.2.1 26 9).bind fun v => (ai_lk st.2.2.2.2.1 26 7).bind fun w => (wf st.2.2.2.2.2 v.2.1 w.2.1).bind fun q =>
    if v.1 = 1 ∧ w.1 = 1 ∧ v.2.2.2 = 0 ∧ w.2.2.2 = 0 ∧ st.2.1 = tn_lo ∧ st.2.2.1.isEmpty = true ∧ nowr WR 27 = true ∧ ai_z st.2.2.2.1 = true ∧ st_tape st.2.2.2.2.2 = true ∧ Nat.blt 1 st.2.2.2.1.length = true then
      some [(if Nat.beq q.1 317 = true then 29 else 20, [], [wf_v q], st.2.2.2.1, st.2.2.2.2.1, st.2.2.2.2.2)] else none
theorem su_wr_ok {WR : List (Nat × Nat × Nat)} {d : Nat} {st : ai_s} {xs : List ai_s} (hq : su_wr WR st = some xs) (h0 : st.1 = 0) (h6 : 6 ≤ d) {w0 : va_W} {ad : List Nat} {p : Program} {l : Launch} {e : Env} {R : Room} {s : State} {m : MethodId} {args : Array Value} {below : List Frame} {meth : Method} {c : Code} {D : va_G} {tys : ai_ty} {A : Nat → Prop} {b L : Nat} {sx : Nat → Int32} {cells slots : Nat} {Q : State → Prop} {r0 : List Int}
    (C : ai_cx tb_m37 d p R s m args c D tys A b L sx cells slots) (k : ∀ x ∈ xs, ai_G tb_TY WR w0 ad tb_m37 p l e R s m args below meth c D tys A b L sx cells slots Q r0 x) : ai_G tb_TY WR w0 ad tb_m37 p l e R s m args below meth c D tys A b L sx cells slots Q r0 st := by
  unfold su_wr at hq
  obtain ⟨v, v1, hq⟩ := Option.bind_eq_some_iff.mp hq
  obtain ⟨w, w1, hq⟩ := Option.bind_eq_some_iff.mp hq
  obtain ⟨q, q1, hq⟩ := Option.bind_eq_some_iff.mp hq
  split at hq
  · rename_i hc
    obtain ⟨c1, c2, c3, c4, c5, c6, c7, c8, c9, c10⟩ := hc
    injection hq with hq
    subst hq
    intro r lv skc ws H locs ls hxx g hP hD hS hl
    obtain ⟨g1, g2, g3, g4, g5, g6, g7, g8⟩ := g
    obtain ⟨n0, x0, i0, j0⟩ := ai_get_ok g3 (show ai_get st.2.1 0 = some (0, 26, 0, 0) by rw [c5]; rfl)
    obtain ⟨aK, aV, hJ⟩ := C.2.2.2.2.2.1.2
    have C' : jd_C tb_m37 d p R s m args c D tys A aK aV cells slots := ⟨C.1, C.2.1, C.2.2.1, C.2.2.2.1, C.2.2.2.2.1, C.2.2.2.2.2.2.1, hJ, C.2.2.2.2.2.2.2.2.1.1, C.2.2.2.2.2.2.2.2.1.2.1, C.2.2.2.2.2.2.2.2.1.2.2.1, C.2.2.2.2.2.2.2.2.1.2.2.2⟩
    have hsk : skc = [] := by
      rw [List.isEmpty_iff.mp c6] at g4
      exact g4.nil
    subst hsk
    have r00 : r[0]? = some 0 := ai_z_ok g1 c8
    obtain ⟨gt, htp⟩ := st_tapeok g2 c9
    have hnow := tape_now g5 g7 c7 htp
    obtain ⟨x1, s1, d1⟩ := ai_lk_ok g6 v1
    obtain ⟨x2, s2, d2⟩ := ai_lk_ok g6 w1
    obtain ⟨a, e1, w1', v1', cc1⟩ := g5.get (c := 26) rfl
    obtain ⟨q27, e2, w2, v2, cc2⟩ := g5.get (c := 27) rfl
    rcases cc1 with ⟨-, fs, rfl, -, hf⟩ | ⟨q, -⟩ | ⟨q, -⟩ | ⟨q, -⟩
    · rcases cc2 with ⟨q, -⟩ | ⟨-, cA, f, rfl, ⟨t0, ht⟩, -⟩ | ⟨q, -⟩ | ⟨q, -⟩
      · exact absurd q (by decide)
      · obtain ⟨y0, f0, d0⟩ := hf 0 _ rfl
        obtain ⟨y7, f7, d7⟩ := hf 7 _ rfl
        obtain ⟨y9, f9, d9⟩ := hf 9 _ rfl
        obtain ⟨q0, z0, rfl⟩ := jd_fr d0 rfl
        obtain ⟨zt, rfl, t1, t2⟩ := jd_fi d7 rfl
        obtain ⟨zf, rfl, u1, u2⟩ := jd_fi d9 rfl
        have hq : q0 = q27 := Option.some.inj (z0.symm.trans v2)
        subst hq
        have hx0 : x0 = .ref a := by
          rcases j0 with ⟨-, q, q1, q2⟩ | ⟨q, -⟩ | ⟨q, -⟩ | ⟨q, -⟩ | ⟨q, -⟩
          · rw [q2, Option.some.inj (q1.symm.trans v1')]
          all_goals exact absurd q (by decide)
        subst hx0
        have hl' : lv_has ls 2 [(0, .ref a)] := ⟨hl.1, hl.2.1, fun q hq => by
          rcases List.mem_cons.mp hq with rfl | hq
          · exact lv_at hl n0 i0
          · cases hq⟩
        have hx1 : x1 = .int zf := s1.fun ⟨a, _, w1', Or.inl ⟨2, fs, rfl, f9⟩⟩
        have hx2 : x2 = .int zt := s2.fun ⟨a, _, w1', Or.inl ⟨2, fs, rfl, f7⟩⟩
        subst hx1
        subst hx2
        obtain ⟨za, a1, a2⟩ := ai_dv1 d1 c1
        obtain ⟨zb, b1, b2⟩ := ai_dv1 d2 c2
        rw [c3] at a2
        rw [c4] at b2
        obtain ⟨k310, k318, kw⟩ := wf_ok g2 htp a1 b1 q1
        have hG : sp_word (fun n => (f n).toInt) zf.toInt.toNat zt.toInt.toNat = sp_word gt za.toNat zb.toNat := by
          rw [show za = zf.toInt by omega, show zb = zt.toInt by omega]
          have t3 : zt.toInt ≤ 160 := t2
          refine sp_word_congr (fun i h1 h2 => ?_)
          rw [← hnow i (by omega)]
          unfold fx_at
          rw [fx_sl_o ⟨q0, cA, 160, f, w2, by omega, rfl⟩]
          rfl
        rw [h0]
        refine jd_wr2 C' h6 hS hP w1' f0 f7 f9 u1 t2 t1 u2 w2 ht hl' (fun j ls' locs' hj hwj hl2 hS2 => ?_) (fun ls' locs' hwj hl2 hS2 => ?_)
        · rw [hG] at hwj
          have hpc : (if Nat.beq q.1 317 = true then 29 else 20) = 20 := by
            rw [if_neg]
            intro h3
            have h3 := ai_beq.mp h3
            rw [if_neg (by omega)] at kw
            omega
          have kk := k _ (List.mem_singleton.mpr rfl)
          rw [hpc] at kk
          exact kk r [] [.int (Int32.ofNat j)] ws H locs' ls' hxx ⟨g1, g2, trivial, ⟨wf_vok (by omega) r00 hwj kw, trivial⟩, g5, g6, g7, g8⟩ hP hD hS2 hl2
        · rw [hG] at hwj
          have hpc : (if Nat.beq q.1 317 = true then 29 else 20) = 29 := by
            rw [if_pos]
            rw [ai_beq]
            by_cases h3 : q.1 = 310
            · rw [if_pos h3] at kw
              obtain ⟨zw, -, y1, y2⟩ := kw
              omega
            · rw [if_neg h3] at kw
              omega
          have kk := k _ (List.mem_singleton.mpr rfl)
          rw [hpc] at kk
          exact kk r [] [.int 7] ws H locs' ls' hxx ⟨g1, g2, trivial, ⟨wf_vok (j := 7) (by omega) r00 hwj kw, trivial⟩, g5, g6, g7, g8⟩ hP hD hS2 hl2
      · exact absurd q (by decide)
      · exact absurd q (by decide)
    · exact absurd q (by decide)
    · exact absurd q (by decide)
    · exact absurd q (by decide)
  · cases hq
end
section
/-! the reference's nameHere: one word after the other -/
def nh_lo (j : Nat) : List (Nat × ai_v) := [(0, (0, 49, 0, 0)), (1, (1, 0, 0, (j : Int)))]
def nh_st (j : Nat) : ai_s := (2, nh_lo j, [], mf_e ++ [(0, 160, false, 4, 0)], [(49, 7, (1, 2, 0, 0)), (49, 12, (1, 3, 0, 0)), (49, 11, (1, 4, 0, 0)), (49, 13, (1, 0, 0, 1))], [])
def nh_w (j : Nat) : List Int := sp_W.getD j []
def nh_d (x : ai_s) (h : Nat → ai_e → Bool) : Bool := x.2.2.2.2.2.any fun q => Nat.beq q.1 0 && (Nat.beq q.2.1 4 && (Nat.beq q.2.2.1 3 && (decide (q.2.2.2.2 = 0) && (x.2.2.2.1[q.2.2.2.1]?).any (h q.2.2.2.1))))
theorem nh_dok {w0 : va_W} {r : List Int} {x : ai_s} {zf ze : Int} {h : Nat → ai_e → Bool} (g1 : ai_ok r x.2.2.2.1) (g2 : ai_sb w0 r x.2.2.2.2.2) (h3 : r[3]? = some zf) (h4 : r[4]? = some ze) (hh : nh_d x h = true) : ∃ (v : Nat) (e : ai_e), h v e = true ∧ r[v]? = some (ze - zf) ∧ e.1 ≤ ze - zf ∧ ze - zf ≤ e.2.1 := by
  obtain ⟨q, hq, hh⟩ := List.any_eq_true.mp hh
  rw [Bool.and_eq_true, Bool.and_eq_true, Bool.and_eq_true, Bool.and_eq_true, ai_beq, ai_beq, ai_beq, decide_eq_true_eq] at hh
  obtain ⟨a1, a2, a3, a4, a5⟩ := hh
  obtain ⟨za, zb, zr, e1, e2, e3, e4, -⟩ := g2 q hq
  rw [a2, h4] at e1
  rw [a3, h3] at e2
  cases e1
  cases e2
  have e5 := e4 a1
  have e6 : zr = ze - zf := by omega
  subst e6
  obtain ⟨e, b1, b2, b3⟩ := ai_any g1 e3 a5
  exact ⟨_, e, b1, e3, b2, b3⟩
def av_140 (x : ai_s) (v : Nat) (c : Int) : Bool := x.2.2.2.2.2.any fun q => Nat.beq q.1 140 && (Nat.beq q.2.1 v && (x.2.2.2.1[q.2.2.1]?).any fun e => decide (e.1 + q.2.2.2.2 = c) && decide (e.2.1 + q.2.2.2.2 = c))
theorem av_140ok {w0 : va_W} {r : List Int} {x : ai_s} {v : Nat} {c z : Int} (g1 : ai_ok r x.2.2.2.1) (g2 : ai_sb w0 r x.2.2.2.2.2) (hv : r[v]? = some z) (h : av_140 x v c = true) : z ≠ c := by
  obtain ⟨q, hq, h⟩ := List.any_eq_true.mp h
  rw [Bool.and_eq_true, Bool.and_eq_true, ai_beq, ai_beq] at h
  obtain ⟨h1, h2, h3⟩ := h
  obtain ⟨ua, ub, ur, -, -, -, -, -, -, -, -, u9⟩ := g2 q hq
  obtain ⟨t1, t2, k1, k2, -, -, -, k6⟩ := (u9 (by omega)).2.1 (by omega)
  obtain ⟨tb, k7, k8⟩ := k6 h1
  rw [h2, hv] at k1
  cases k1
  obtain ⟨e, b1, b2, b3⟩ := ai_any g1 k7 h3
  rw [Bool.and_eq_true, decide_eq_true_eq, decide_eq_true_eq] at b1
  omega
def nh_eq (x : ai_s) (n : Int) : Bool := nh_d x fun _ e => decide (e.1 = n) && decide (e.2.1 = n)
def nh_ne (x : ai_s) (n : Int) : Bool := nh_d x fun v e => decide (e.2.1 < n) || (decide (n < e.1) || av_140 x v n)
def nh_cn (x : ai_s) (k : Nat) (c : Int) : Bool := av_f x 4 3 2 none (-(k : Int)) && mg x 3 (k : Int) fun v e => decide (e.2.1 < c) || (decide (c < e.1) || av_140 x v c)
def nh_ce (x : ai_s) (k : Nat) (c : Int) : Bool := av_f x 4 3 2 none (-(k : Int)) && mg x 3 (k : Int) fun _ e => decide (e.1 = c) && decide (e.2.1 = c)
def nh_ok (j : Nat) (x : ai_s) : Bool :=
  (Nat.beq x.1 115 && (x.2.2.1.isEmpty && (decide (ai_get x.2.1 0 = some (0, 49, 0, 0)) && (decide (ai_get x.2.1 1 = some (1, 0, 0, (j : Int) + 1)) && (nh_ne x ((nh_w j).length : Int) || (List.range (nh_w j).length).any fun k => (nh_eq x ((nh_w j).length : Int) && av_f x 5 3 2 none (-(k : Int))) || nh_cn x k ((nh_w j).getD k 0)))))) ||
  (Nat.beq x.1 111 && (decide (x.2.2.1 = [(1, 0, 0, (j : Int))]) && (nh_eq x ((nh_w j).length : Int) && (List.range (nh_w j).length).all fun k => nh_ce x k ((nh_w j).getD k 0))))
noncomputable def nh_run (j : Nat) : Bool := (ai_ex (hk []) 400 103 tb_m103 5 [115] (nh_st j)).any fun xs => xs.all (nh_ok j)
theorem nh_r0 : nh_run 0 = true := by decide +kernel
theorem nh_r1 : nh_run 1 = true := by decide +kernel
theorem nh_r2 : nh_run 2 = true := by decide +kernel
theorem nh_r3 : nh_run 3 = true := by decide +kernel
theorem nh_r4 : nh_run 4 = true := by decide +kernel
theorem nh_r5 : nh_run 5 = true := by decide +kernel
theorem nh_r6 : nh_run 6 = true := by decide +kernel
theorem nh_r (j : Nat) (hj : j < 7) : nh_run j = true := by
  match j, hj with
  | 0, _ => exact nh_r0
  | 1, _ => exact nh_r1
  | 2, _ => exact nh_r2
  | 3, _ => exact nh_r3
  | 4, _ => exact nh_r4
  | 5, _ => exact nh_r5
  | 6, _ => exact nh_r6
  | j + 7, hj => exact absurd hj (by omega)
def nh_7 : ai_s := (2, nh_lo 7, [], [(0, 0, false, 0, 0), (0, 2555, false, 1, 0)], [], [])
theorem nh_r7 : ((ai_ex (hk []) 20 103 tb_m103 5 [] nh_7).any fun xs => xs.all fun x => Nat.beq x.1 120 && decide (x.2.2.1 = [(1, 0, 0, -4)])) = true := by decide +kernel
def nh_0 : ai_s := (0, ms_lo, [], [(0, 0, false, 0, 0), (0, 2555, false, 1, 0)], [], [])
theorem nh_r00 : ((ai_ex (hk []) 20 103 tb_m103 5 [2] nh_0).any fun xs => xs.all fun x => Nat.beq x.1 2 && (x.2.2.1.isEmpty && (decide (ai_get x.2.1 0 = some (0, 49, 0, 0)) && decide (ai_get x.2.1 1 = some (1, 0, 0, 0))))) = true := by decide +kernel
end
section
/-! .. and nameHere as a known method, where the word is told -/
section NHS
variable {ad : List Nat} {M : ai_m} {p : Program} {l : Launch} {e : Env} {R : Room} {s : State} {m : MethodId} {args : Array Value} {below : List Frame} {meth : Method} {c : Code} {D : va_G} {tys : ai_ty} {A : Nat → Prop} {b L : Nat} {sx : Nat → Int32} {cells slots : Nat} {Q : State → Prop}
theorem hG_this2 {r : List Int} {lo : List (Nat × ai_v)} {lv : List (Nat × Value)} {cl pc : Nat} {o : Int} {sk : List Value} {ws : va_W} (h : ai_lo ad b r lo lv) (h0 : r[0]? = some 0) (hg : ai_get lo 0 = some (0, cl, 0, 0)) (hg1 : ai_get lo 1 = some (1, 0, 0, o)) (k : ∀ lv1, ai_lo ad b [0] [(0, (0, cl, 0, 0)), (1, (1, 0, 0, o))] lv1 → hG M p l e R s m args below meth c D A cells slots Q pc lv1 sk ws) : hG M p l e R s m args below meth c D A cells slots Q pc lv sk ws := by
  obtain ⟨n, x, h1, h2⟩ := ai_get_ok h hg
  obtain ⟨n', x', h1', h2'⟩ := ai_get_ok h hg1
  intro H locs ls hP hD hS hl
  refine k [(0, x), (1, x')] ⟨rfl, ?_, rfl, ?_, trivial⟩ H locs ls hP hD hS ⟨hl.1, hl.2.1, fun q hq => ?_⟩
  · exact dv0 h2 h0 rfl rfl
  · exact dv0 h2' h0 rfl rfl
  · rcases List.mem_cons.mp hq with rfl | hq
    · exact lv_at hl n h1
    · rw [List.mem_singleton.mp hq]
      exact lv_at hl n' h1'
theorem nh_back (C : ai_cx tb_m103 5 p R s m args c D tys A b L sx cells slots) {ws : va_W} {lv : List (Nat × Value)} (k : hG tb_m103 p l e R s m args below meth c D A cells slots Q 2 lv [] ws) : hG tb_m103 p l e R s m args below meth c D A cells slots Q 115 lv [] ws := by
  intro H locs ls hP hD hS hl
  exact lv_goto (tgt := 2) C.1 C.2.1 (tv_m103.1.1.1 (115, .goto (-113), 3) (List.mem_of_getElem? (i := 68) rfl)) (by decide) (k H locs ls hP hD hS hl)
theorem nh_len {j : Nat} (hj : j < 7) : 3 ≤ (nh_w j).length := by
  obtain ⟨h1, -⟩ := jw j hj
  have := jw3 j hj
  unfold nh_w
  omega
theorem nh_step {j : Nat} (hj : j < 7) (C : ai_cx tb_m103 5 p R s m args c D tys A b L sx cells slots) {ws : va_W} {zn zf ze zt : Int32} {g : Nat → Int} (hw : ai_wd tb_TY ad tys ws) (hn : ai_sl ws 49 7 (.int zn)) (hf : ai_sl ws 49 12 (.int zf)) (he : ai_sl ws 49 11 (.int ze)) (ht : ai_sl ws 49 13 (.int zt)) (t1 : zt.toInt = 1) (hle : ze.toInt ≤ zn.toInt) (hg : ∀ i, i < zn.toInt.toNat → fx_o ws 52 i = some (g i)) {lv : List (Nat × Value)} (hlv : ai_lo ad b [0] (nh_lo j) lv)
    (k1 : ∀ (ws' : va_W) (lv' : List (Nat × Value)), ai_wd tb_TY ad tys ws' → ai_fr [] ws ws' → sp_is g zf.toInt.toNat ze.toInt.toNat (nh_w j) = false → ai_lo ad b [0] (nh_lo (j + 1)) lv' → hG tb_m103 p l e R s m args below meth c D A cells slots Q 115 lv' [] ws')
    (k2 : ∀ (ws' : va_W) (lv' : List (Nat × Value)) (z : Int32), ai_wd tb_TY ad tys ws' → ai_fr [] ws ws' → sp_is g zf.toInt.toNat ze.toInt.toNat (nh_w j) = true → z.toInt = (j : Int) → hG tb_m103 p l e R s m args below meth c D A cells slots Q 111 lv' [.int z] ws') : hG tb_m103 p l e R s m args below meth c D A cells slots Q 2 lv [] ws := by
  obtain ⟨n0, n1⟩ := f49 (i := 7) hw hn rfl
  obtain ⟨c0, c1⟩ := f49 (i := 11) hw he rfl
  obtain ⟨i0, i1⟩ := f49 (i := 12) hw hf rfl
  have hL := nh_len hj
  obtain ⟨xs, h1, h3⟩ := ai_anyE (nh_r j hj)
  have gm : ai_gm tb_TY [] ws ad b L sx tys tb_m103.2.2.2.2.1 [0, 0, zn.toInt, zf.toInt, ze.toInt] (nh_st j) lv [] ws := by
    refine ⟨en_mk (by simp only [nh_st, mf_e, List.cons_append, List.nil_append, en_b, and_true]; omega) rfl, (fun q hq => by cases hq), lo0_ok (r := [0]) rfl rfl rfl hlv, trivial, hw, kc (kn1 hn (n := 2) (t := zn.toInt) rfl (by omega)) (kc (kn1 hf (n := 3) (t := zf.toInt) rfl (by omega)) (kc (kn1 he (n := 4) (t := ze.toInt) rfl (by omega)) (kc (kn1 ht (n := 0) (t := 0) rfl (by omega)) k0))), fun _ _ _ _ h => h, fun h => by cases h⟩
  refine hseg (st := nh_st j) h1 rfl C gm (fun x hx r' lv' sk' ws' hx' g' => ?_)
  obtain ⟨g1, g2, g3, g4, g5, g6, g7, g8⟩ := g'
  have r0 : r'[0]? = some 0 := hx'.at rfl
  have r2 : r'[2]? = some zn.toInt := hx'.at rfl
  have r3 : r'[3]? = some zf.toInt := hx'.at rfl
  have r4 : r'[4]? = some ze.toInt := hx'.at rfl
  have hox := List.all_eq_true.mp h3 x hx
  unfold nh_ok at hox
  rw [Bool.or_eq_true] at hox
  rcases hox with hox | hox
  · rw [Bool.and_eq_true, Bool.and_eq_true, Bool.and_eq_true, Bool.and_eq_true, ai_beq, decide_eq_true_eq, decide_eq_true_eq, Bool.or_eq_true] at hox
    obtain ⟨p1, hs, p2, p3, p4⟩ := hox
    have hsk : sk' = [] := by
      rw [List.isEmpty_iff.mp hs] at g4
      exact g4.nil
    subst hsk
    rw [p1]
    refine hG_this2 g3 r0 p2 p3 (fun lv1 hlv1 => k1 ws' lv1 g5 g7 ?_ hlv1)
    rw [Bool.eq_false_iff]
    intro hc
    obtain ⟨u1, u2⟩ := sp_is_iff.mp hc
    rcases p4 with p4 | p4
    · obtain ⟨v, e0, b1, b2, b3, b4⟩ := nh_dok g1 g2 r3 r4 p4
      rw [Bool.or_eq_true, Bool.or_eq_true, decide_eq_true_eq, decide_eq_true_eq] at b1
      rcases b1 with b1 | b1 | b1
      · omega
      · omega
      · have := av_140ok g1 g2 b2 b1
        omega
    · obtain ⟨k, hk, p4⟩ := List.any_eq_true.mp p4
      have hk := List.mem_range.mp hk
      have u3 := u2 k hk
      rw [Bool.or_eq_true] at p4
      rcases p4 with p4 | p4
      · rw [Bool.and_eq_true] at p4
        obtain ⟨v, e0, b1, b2, b3, b4⟩ := nh_dok g1 g2 r3 r4 p4.1
        rw [Bool.and_eq_true, decide_eq_true_eq, decide_eq_true_eq] at b1
        have := av_f5 g2 r3 r2 p4.2
        omega
      · unfold nh_cn at p4
        rw [Bool.and_eq_true] at p4
        have h4 := av_f4 g2 r3 r2 p4.1
        have hb : fx_o ws 52 (zf.toInt + (k : Int)).toNat = some (g (zf.toInt.toNat + k)) := by
          rw [show (zf.toInt + (k : Int)).toNat = zf.toInt.toNat + k by omega]
          exact hg _ (by omega)
        obtain ⟨v, e0, b1, b2, b3, b4⟩ := mg_ok g1 g2 r3 hb p4.2
        have u4 : (nh_w j).getD k 0 = g (zf.toInt.toNat + k) := by
          rw [List.getD_eq_getElem?_getD, u3]
          rfl
        rw [u4, Bool.or_eq_true, Bool.or_eq_true, decide_eq_true_eq, decide_eq_true_eq] at b1
        rcases b1 with b1 | b1 | b1
        · omega
        · omega
        · exact av_140ok g1 g2 b2 b1 rfl
  · rw [Bool.and_eq_true, Bool.and_eq_true, Bool.and_eq_true, ai_beq, decide_eq_true_eq] at hox
    obtain ⟨p1, p2, p3, p4⟩ := hox
    rw [p2] at g4
    obtain ⟨y, s1, rfl, dy, g4⟩ := g4.cons
    have hs1 := g4.nil
    subst hs1
    obtain ⟨z, rfl, hz⟩ := dvn dy r0
    rw [p1]
    refine k2 ws' lv' z g5 g7 (sp_is_iff.mpr ?_) (by omega)
    obtain ⟨v, e0, b1, b2, b3, b4⟩ := nh_dok g1 g2 r3 r4 p3
    rw [Bool.and_eq_true, decide_eq_true_eq, decide_eq_true_eq] at b1
    refine ⟨by omega, fun k hk => ?_⟩
    have p5 := List.all_eq_true.mp p4 k (List.mem_range.mpr hk)
    unfold nh_ce at p5
    rw [Bool.and_eq_true] at p5
    have h4 := av_f4 g2 r3 r2 p5.1
    have hb : fx_o ws 52 (zf.toInt + (k : Int)).toNat = some (g (zf.toInt.toNat + k)) := by
      rw [show (zf.toInt + (k : Int)).toNat = zf.toInt.toNat + k by omega]
      exact hg _ (by omega)
    obtain ⟨v', e1, d1, d2, d3, d4⟩ := mg_ok g1 g2 r3 hb p5.2
    rw [Bool.and_eq_true, decide_eq_true_eq, decide_eq_true_eq] at d1
    rw [List.getElem?_eq_getElem hk]
    rw [List.getD_eq_getElem?_getD, List.getElem?_eq_getElem hk] at d1
    have d1 : e1.1 = (nh_w j)[k] ∧ e1.2.1 = (nh_w j)[k] := d1
    rw [show (nh_w j)[k] = g (zf.toInt.toNat + k) by omega]
theorem nh_all (C : ai_cx tb_m103 5 p R s m args c D tys A b L sx cells slots) {ws : va_W} {zn zf ze zt : Int32} {g : Nat → Int} (hw : ai_wd tb_TY ad tys ws) (hn : ai_sl ws 49 7 (.int zn)) (hf : ai_sl ws 49 12 (.int zf)) (he : ai_sl ws 49 11 (.int ze)) (ht : ai_sl ws 49 13 (.int zt)) (t1 : zt.toInt = 1) (hle : ze.toInt ≤ zn.toInt) (hg : ∀ i, i < zn.toInt.toNat → fx_o ws 52 i = some (g i)) {lv : List (Nat × Value)} (hlv : ai_lo ad b [0] ms_lo lv)
    (k1 : ∀ (ws' : va_W) (lv' : List (Nat × Value)) (z : Int32), ai_wd tb_TY ad tys ws' → ai_fr [] ws ws' → sp_word g zf.toInt.toNat ze.toInt.toNat = 7 → z.toInt = -4 → hG tb_m103 p l e R s m args below meth c D A cells slots Q 120 lv' [.int z] ws')
    (k2 : ∀ (ws' : va_W) (lv' : List (Nat × Value)) (z : Int32) (j : Nat), ai_wd tb_TY ad tys ws' → ai_fr [] ws ws' → j < 7 → sp_word g zf.toInt.toNat ze.toInt.toNat = j → z.toInt = (j : Int) → hG tb_m103 p l e R s m args below meth c D A cells slots Q 111 lv' [.int z] ws') : hG tb_m103 p l e R s m args below meth c D A cells slots Q 0 lv [] ws := by
  have wn : ∀ (k i : Nat), ai_wr [] k i i = false := fun _ _ => rfl
  have loop : ∀ (n j : Nat), j + n = 7 → (∀ i, i < j → sp_is g zf.toInt.toNat ze.toInt.toNat (sp_W.getD i []) = false) → ∀ (ws' : va_W) (lv' : List (Nat × Value)), ai_wd tb_TY ad tys ws' → ai_fr [] ws ws' → ai_lo ad b [0] (nh_lo j) lv' → hG tb_m103 p l e R s m args below meth c D A cells slots Q 2 lv' [] ws' := by
    intro n
    induction n with
    | zero =>
      intro j hj hpre ws' lv' hw' hf' hlv'
      have e7 : j = 7 := by omega
      subst e7
      obtain ⟨xs, h1, h3⟩ := ai_anyE nh_r7
      have gm : ai_gm tb_TY [] ws' ad b L sx tys tb_m103.2.2.2.2.1 [0, 0] nh_7 lv' [] ws' := by
        refine ⟨en_mk (by simp only [nh_7, en_b, and_true]; omega) rfl, (fun q hq => by cases hq), lo0_ok (r := [0]) rfl rfl rfl hlv', trivial, hw', k0, fun _ _ _ _ h => h, fun h => by cases h⟩
      refine hseg (st := nh_7) h1 rfl C gm (fun x hx r' lv2 sk' ws2 hx' g' => ?_)
      obtain ⟨g1, g2, g3, g4, g5, g6, g7, g8⟩ := g'
      have r0 : r'[0]? = some 0 := hx'.at rfl
      have hox := List.all_eq_true.mp h3 x hx
      rw [Bool.and_eq_true, ai_beq, decide_eq_true_eq] at hox
      rw [hox.2] at g4
      obtain ⟨y, s1, rfl, dy, g4⟩ := g4.cons
      have hs1 := g4.nil
      subst hs1
      obtain ⟨z, rfl, hz⟩ := dvn dy r0
      rw [hox.1]
      exact k1 ws2 lv2 z g5 (hf'.tr g7) (by rw [sp_word_P]; exact sp_P_at (by decide) hpre (fun h => absurd h (by decide))) (by omega)
    | succ n ih =>
      intro j hj hpre ws' lv' hw' hf' hlv'
      have hg' : ∀ i, i < zn.toInt.toNat → fx_o ws' 52 i = some (g i) := fun i hi => fr_fx hw' (k := 52) rfl hf' (wn _ _) (hg i hi)
      refine nh_step (j := j) (by omega) C hw' (hf' 49 7 _ (wn _ _) hn) (hf' 49 12 _ (wn _ _) hf) (hf' 49 11 _ (wn _ _) he) (hf' 49 13 _ (wn _ _) ht) t1 hle hg' hlv' (fun ws2 lv2 hw2 hf2 hno hlv2 => ?_) (fun ws2 lv2 z hw2 hf2 hyes hz => ?_)
      · refine nh_back C (ih (j + 1) (by omega) (fun i hi => ?_) ws2 lv2 hw2 (hf'.tr hf2) hlv2)
        by_cases hij : i < j
        · exact hpre i hij
        · rw [show i = j by omega]
          exact hno
      · exact k2 ws2 lv2 z j hw2 (hf'.tr hf2) (by omega) (by rw [sp_word_P]; exact sp_P_at (by omega) hpre (fun _ => hyes)) hz
  obtain ⟨xs, h1, h3⟩ := ai_anyE nh_r00
  have gm : ai_gm tb_TY [] ws ad b L sx tys tb_m103.2.2.2.2.1 [0, 0] nh_0 lv [] ws := by
    refine ⟨en_mk (by simp only [nh_0, en_b, and_true]; omega) rfl, (fun q hq => by cases hq), lo0_ok (r := [0]) rfl rfl rfl hlv, trivial, hw, k0, fun _ _ _ _ h => h, fun h => by cases h⟩
  refine hseg (st := nh_0) h1 rfl C gm (fun x hx r' lv2 sk' ws2 hx' g' => ?_)
  obtain ⟨g1, g2, g3, g4, g5, g6, g7, g8⟩ := g'
  have r0 : r'[0]? = some 0 := hx'.at rfl
  have hox := List.all_eq_true.mp h3 x hx
  rw [Bool.and_eq_true, Bool.and_eq_true, Bool.and_eq_true, ai_beq, decide_eq_true_eq, decide_eq_true_eq] at hox
  obtain ⟨p1, hs, p2, p3⟩ := hox
  have hsk : sk' = [] := by
    rw [List.isEmpty_iff.mp hs] at g4
    exact g4.nil
  subst hsk
  rw [p1]
  exact hG_this2 g3 r0 p2 p3 (fun lv1 hlv1 => loop 7 0 rfl (fun i hi => absurd hi (Nat.not_lt_zero _)) ws2 lv1 g5 g7 hlv1)
end NHS
def su_nh (st : ai_s) (WR : List (Nat × Nat × Nat)) : Option (List ai_s) :=
  (ai_lk st.2.2.2.2.1 49 12).bind fun v => (ai_lk st.2.2.2.2.1 49 11).bind fun w => (ai_lk st.2.2.2.2.1 49 7).bind fun u => (wf st.2.2.2.2.2 v.2.1 w.2.1).bind fun q =>
    if v.1 = 1 ∧ w.1 = 1 ∧ u.1 = 1 ∧ v.2.2.2 = 0 ∧ w.2.2.2 = 0 ∧ u.2.2.2 = 0 ∧ ai_lk st.2.2.2.2.1 49 13 = some (1, 0, 0, 1) ∧ st.2.1 = ms_lo ∧ st.2.2.1 = [] ∧ nowr WR 52 = true ∧ ai_z st.2.2.2.1 = true ∧ st_fact st.2.2.2.2.2 u.2.1 = true ∧ av_f st 4 w.2.1 u.2.1 none 1 = true then
      some [(if Nat.beq q.1 317 = true then 120 else 111, [], [if Nat.beq q.1 317 = true then (1, 0, 0, -4) else wf_v q], st.2.2.2.1, st.2.2.2.2.1, st.2.2.2.2.2)] else none
theorem su_nh_ok {WR : List (Nat × Nat × Nat)} {d : Nat} {st : ai_s} {xs : List ai_s} (hq : su_nh st WR = some xs) (h0 : st.1 = 0) (hd : 5 ≤ d) {w0 : va_W} {ad : List Nat} {p : Program} {l : Launch} {e : Env} {R : Room} {s : State} {m : MethodId} {args : Array Value} {below : List Frame} {meth : Method} {c : Code} {D : va_G} {tys : ai_ty} {A : Nat → Prop} {b L : Nat} {sx : Nat → Int32} {cells slots : Nat} {Q : State → Prop} {r0 : List Int}
    (C : ai_cx tb_m103 d p R s m args c D tys A b L sx cells slots) (k : ∀ x ∈ xs, ai_G tb_TY WR w0 ad tb_m103 p l e R s m args below meth c D tys A b L sx cells slots Q r0 x) : ai_G tb_TY WR w0 ad tb_m103 p l e R s m args below meth c D tys A b L sx cells slots Q r0 st := by
  unfold su_nh at hq
  obtain ⟨v, v1, hq⟩ := Option.bind_eq_some_iff.mp hq
  obtain ⟨w, w1, hq⟩ := Option.bind_eq_some_iff.mp hq
  obtain ⟨u, u1, hq⟩ := Option.bind_eq_some_iff.mp hq
  obtain ⟨q, q1, hq⟩ := Option.bind_eq_some_iff.mp hq
  split at hq
  · rename_i hc
    obtain ⟨c1, c2, c3, c4, c5, c6, c7, c8, c9, c10, c11, c12, c13⟩ := hc
    injection hq with hq
    subst hq
    intro r lv sk ws H locs ls hx g hP hD hS hl
    obtain ⟨g1, g2, g3, g4, g5, g6, g7, g8⟩ := g
    have hsk : sk = [] := by rw [c9] at g4; exact g4.nil
    subst hsk
    rw [h0]
    have asI : ∀ {v : ai_v} {x : Value}, v.1 = 1 → ai_dv ad b r v x → ∃ i : Int32, x = .int i := fun {v x} h1 d1 => by
      rcases d1 with ⟨q, -⟩ | ⟨-, z, i, -, q2, -⟩ | ⟨q, -⟩ | ⟨q, -⟩ | ⟨q, -⟩
      · omega
      · exact ⟨i, q2⟩
      all_goals omega
    obtain ⟨x1, s1, d1⟩ := ai_lk_ok g6 v1
    obtain ⟨x2, s2, d2⟩ := ai_lk_ok g6 w1
    obtain ⟨x3, s3, d3⟩ := ai_lk_ok g6 u1
    obtain ⟨zf, rfl⟩ := asI c1 d1
    obtain ⟨ze, rfl⟩ := asI c2 d2
    obtain ⟨zn, rfl⟩ := asI c3 d3
    obtain ⟨ya, a1, a2⟩ := ai_dv1 d1 c1
    obtain ⟨yb, b1, b2⟩ := ai_dv1 d2 c2
    obtain ⟨yc, e1, e2⟩ := ai_dv1 d3 c3
    rw [c4] at a2
    rw [c5] at b2
    rw [c6] at e2
    have r00 : r[0]? = some 0 := ai_z_ok g1 c11
    obtain ⟨zt, s4, o4⟩ := lkv g6 c7 r00
    obtain ⟨gt, t1, t2⟩ := st_factok g2 e1 c12
    have hlt := av_f4 (x := st) g2 b1 e1 c13
    obtain ⟨n0, n1⟩ := f49 (i := 7) g5 s3 rfl
    obtain ⟨k310, k318, kw⟩ := wf_ok g2 t1 a1 b1 q1
    have hgn : ∀ i, i < zn.toInt.toNat → fx_o ws 52 i = some (gt i) := fun i hi => fr_fx (k := 52) g5 rfl g7 (nowr_ok c10 i i) (t2 i (by omega))
    have wn : ∀ (k i : Nat), ai_wr [] k i i = false := fun _ _ => rfl
    have kk := k _ (List.mem_singleton.mpr rfl)
    refine nh_all (g := gt) (mm_cx hd C) g5 s3 s1 s2 s4 (by omega) (by omega) hgn (lo0_ok r00 rfl rfl (by rw [← c8]; exact g3)) (fun ws' lv' z hw' hf hwd hz => ?_) (fun ws' lv' z j hw' hf hj hwd hz => ?_) H locs ls hP hD hS hl
    · rw [show zf.toInt = ya by omega, show ze.toInt = yb by omega] at hwd
      have h317 : Nat.beq q.1 317 = true := by
        rw [ai_beq]
        by_cases h3 : q.1 = 310
        · rw [if_pos h3] at kw
          obtain ⟨zw, -, y1, y2⟩ := kw
          omega
        · rw [if_neg h3] at kw
          omega
      rw [if_pos h317, if_pos h317] at kk
      intro H' locs' ls' hP' hD' hS' hl'
      exact kk r [] [.int z] ws' H' locs' ls' hx ⟨g1, g2, trivial, ⟨Or.inr (Or.inl ⟨rfl, 0, _, r00, rfl, by show z.toInt = 0 + (-4); omega⟩), trivial⟩, hw', fun q hq => (by
        obtain ⟨x, k1, k2⟩ := g6 q hq
        exact ⟨x, hf _ _ _ (wn _ _) k1, k2⟩), fun cc i x hwr hsl => hf cc i x (wn _ _) (g7 cc i x hwr hsl), g8⟩ hP' hD' hS' ⟨hl'.1, hl'.2.1, fun q hq => by cases hq⟩
    · rw [show zf.toInt = ya by omega, show ze.toInt = yb by omega] at hwd
      have h317 : ¬ Nat.beq q.1 317 = true := by
        rw [ai_beq]
        intro h3
        rw [if_neg (by omega)] at kw
        omega
      rw [if_neg h317, if_neg h317] at kk
      have hzj : z = Int32.ofNat j := Int32.toInt_inj.mp (by
        have e : (Int32.ofNat j).toInt = (j : Int) := nI_toInt (by omega)
        rw [hz, e])
      intro H' locs' ls' hP' hD' hS' hl'
      exact kk r [] [.int z] ws' H' locs' ls' hx ⟨g1, g2, trivial, ⟨by rw [hzj]; exact wf_vok (by omega) r00 hwd kw, trivial⟩, hw', fun q hq => (by
        obtain ⟨x, k1, k2⟩ := g6 q hq
        exact ⟨x, hf _ _ _ (wn _ _) k1, k2⟩), fun cc i x hwr hsl => hf cc i x (wn _ _) (g7 cc i x hwr hsl), g8⟩ hP' hD' hS' ⟨hl'.1, hl'.2.1, fun q hq => by cases hq⟩
  · cases hq
end
