section
-- ===== PART A: goes FIRST, ahead of the names: the tables' words, and 'selects' of the private methods out of them =====
/-- a private method of a class that the tables say can be made, by its rows of tables_1 -/
def lw_okq (q : MethodName × Nat) : Prop := (q.1.cls ≠ "java/lang/invoke/MethodHandle" ∧ q.1.cls ≠ "java/lang/invoke/VarHandle") ∧ Cond.instantiable q.1.cls q.2 ∈ tables_1 ∧ Cond.privateMethod q.1 ∈ tables_1 ∧ Cond.instanceMethod q.1 ∈ tables_1
theorem lw_p0 : lw_okq (⟨"HeelPost", "found", "(I)I"⟩, 11) := ⟨⟨by decide +kernel, by decide +kernel⟩, List.mem_of_getElem? (i := 14) (by decide +kernel), List.mem_of_getElem? (i := 272) (by decide +kernel), List.mem_of_getElem? (i := 273) (by decide +kernel)⟩
theorem lw_p1 : lw_okq (⟨"HeelPost", "unfound", "(I)I"⟩, 11) := ⟨⟨by decide +kernel, by decide +kernel⟩, List.mem_of_getElem? (i := 14) (by decide +kernel), List.mem_of_getElem? (i := 281) (by decide +kernel), List.mem_of_getElem? (i := 282) (by decide +kernel)⟩
theorem lw_p2 : lw_okq (⟨"HeelPost$Tape", "readSign", "(I)V"⟩, 5) := ⟨⟨by decide +kernel, by decide +kernel⟩, List.mem_of_getElem? (i := 41) (by decide +kernel), List.mem_of_getElem? (i := 362) (by decide +kernel), List.mem_of_getElem? (i := 363) (by decide +kernel)⟩
theorem lw_p3 : lw_okq (⟨"HeelPost$Tape", "fail", "(I)V"⟩, 5) := ⟨⟨by decide +kernel, by decide +kernel⟩, List.mem_of_getElem? (i := 41) (by decide +kernel), List.mem_of_getElem? (i := 366) (by decide +kernel), List.mem_of_getElem? (i := 367) (by decide +kernel)⟩
theorem lw_p4 : lw_okq (⟨"HeelPost$Tape", "failAt", "(II)V"⟩, 5) := ⟨⟨by decide +kernel, by decide +kernel⟩, List.mem_of_getElem? (i := 41) (by decide +kernel), List.mem_of_getElem? (i := 370) (by decide +kernel), List.mem_of_getElem? (i := 371) (by decide +kernel)⟩
theorem lw_p5 : lw_okq (⟨"HeelPost$Tape", "readNumber", "(II)I"⟩, 5) := ⟨⟨by decide +kernel, by decide +kernel⟩, List.mem_of_getElem? (i := 41) (by decide +kernel), List.mem_of_getElem? (i := 374) (by decide +kernel), List.mem_of_getElem? (i := 375) (by decide +kernel)⟩
theorem lw_p6 : lw_okq (⟨"HeelPost$Tape", "readPerson", "(LHeelPost$Town;)V"⟩, 5) := ⟨⟨by decide +kernel, by decide +kernel⟩, List.mem_of_getElem? (i := 41) (by decide +kernel), List.mem_of_getElem? (i := 382) (by decide +kernel), List.mem_of_getElem? (i := 383) (by decide +kernel)⟩
theorem lw_p7 : lw_okq (⟨"HeelPost$Tape", "readSort", "(I)I"⟩, 5) := ⟨⟨by decide +kernel, by decide +kernel⟩, List.mem_of_getElem? (i := 41) (by decide +kernel), List.mem_of_getElem? (i := 386) (by decide +kernel), List.mem_of_getElem? (i := 387) (by decide +kernel)⟩
theorem lw_p8 : lw_okq (⟨"HeelPost$Errands", "foreseeOne", "(LHeelPost$Town;I)V"⟩, 8) := ⟨⟨by decide +kernel, by decide +kernel⟩, List.mem_of_getElem? (i := 155) (by decide +kernel), List.mem_of_getElem? (i := 454) (by decide +kernel), List.mem_of_getElem? (i := 455) (by decide +kernel)⟩
theorem lw_p9 : lw_okq (⟨"HeelPost$Errands", "carrierOf", "(LHeelPost$Town;II)I"⟩, 8) := ⟨⟨by decide +kernel, by decide +kernel⟩, List.mem_of_getElem? (i := 155) (by decide +kernel), List.mem_of_getElem? (i := 478) (by decide +kernel), List.mem_of_getElem? (i := 479) (by decide +kernel)⟩
theorem lw_p10 : lw_okq (⟨"HeelPost$Errands", "carryOn", "(LHeelPost$Town;II)V"⟩, 8) := ⟨⟨by decide +kernel, by decide +kernel⟩, List.mem_of_getElem? (i := 155) (by decide +kernel), List.mem_of_getElem? (i := 487) (by decide +kernel), List.mem_of_getElem? (i := 488) (by decide +kernel)⟩
theorem lw_p11 : lw_okq (⟨"HeelPost", "isLetter", "(I)Z"⟩, 11) := ⟨⟨by decide +kernel, by decide +kernel⟩, List.mem_of_getElem? (i := 14) (by decide +kernel), List.mem_of_getElem? (i := 503) (by decide +kernel), List.mem_of_getElem? (i := 504) (by decide +kernel)⟩
theorem lw_p12 : lw_okq (⟨"HeelPost", "isLane", "(I)Z"⟩, 11) := ⟨⟨by decide +kernel, by decide +kernel⟩, List.mem_of_getElem? (i := 14) (by decide +kernel), List.mem_of_getElem? (i := 507) (by decide +kernel), List.mem_of_getElem? (i := 508) (by decide +kernel)⟩
theorem lw_p13 : lw_okq (⟨"HeelPost", "refusalOf", "(IZ)I"⟩, 11) := ⟨⟨by decide +kernel, by decide +kernel⟩, List.mem_of_getElem? (i := 14) (by decide +kernel), List.mem_of_getElem? (i := 519) (by decide +kernel), List.mem_of_getElem? (i := 520) (by decide +kernel)⟩
theorem lw_p14 : lw_okq (⟨"HeelPost", "isPerson", "(I)Z"⟩, 11) := ⟨⟨by decide +kernel, by decide +kernel⟩, List.mem_of_getElem? (i := 14) (by decide +kernel), List.mem_of_getElem? (i := 531) (by decide +kernel), List.mem_of_getElem? (i := 532) (by decide +kernel)⟩
theorem lw_p15 : lw_okq (⟨"HeelPost$Foretold", "prepare", "(LHeelPost$Town;I)V"⟩, 6) := ⟨⟨by decide +kernel, by decide +kernel⟩, List.mem_of_getElem? (i := 187) (by decide +kernel), List.mem_of_getElem? (i := 561) (by decide +kernel), List.mem_of_getElem? (i := 562) (by decide +kernel)⟩
def lw_privs_1 : List (MethodName × Nat) := [(⟨"HeelPost", "found", "(I)I"⟩, 11), (⟨"HeelPost", "unfound", "(I)I"⟩, 11), (⟨"HeelPost$Tape", "readSign", "(I)V"⟩, 5), (⟨"HeelPost$Tape", "fail", "(I)V"⟩, 5), (⟨"HeelPost$Tape", "failAt", "(II)V"⟩, 5), (⟨"HeelPost$Tape", "readNumber", "(II)I"⟩, 5), (⟨"HeelPost$Tape", "readPerson", "(LHeelPost$Town;)V"⟩, 5), (⟨"HeelPost$Tape", "readSort", "(I)I"⟩, 5), (⟨"HeelPost$Errands", "foreseeOne", "(LHeelPost$Town;I)V"⟩, 8), (⟨"HeelPost$Errands", "carrierOf", "(LHeelPost$Town;II)I"⟩, 8), (⟨"HeelPost$Errands", "carryOn", "(LHeelPost$Town;II)V"⟩, 8), (⟨"HeelPost", "isLetter", "(I)Z"⟩, 11), (⟨"HeelPost", "isLane", "(I)Z"⟩, 11), (⟨"HeelPost", "refusalOf", "(IZ)I"⟩, 11), (⟨"HeelPost", "isPerson", "(I)Z"⟩, 11), (⟨"HeelPost$Foretold", "prepare", "(LHeelPost$Town;I)V"⟩, 6)]
theorem lw_r1 : ∀ q ∈ lw_privs_1, lw_okq q := List.forall_mem_cons.mpr ⟨lw_p0, List.forall_mem_cons.mpr ⟨lw_p1, List.forall_mem_cons.mpr ⟨lw_p2, List.forall_mem_cons.mpr ⟨lw_p3, List.forall_mem_cons.mpr ⟨lw_p4, List.forall_mem_cons.mpr ⟨lw_p5, List.forall_mem_cons.mpr ⟨lw_p6, List.forall_mem_cons.mpr ⟨lw_p7, List.forall_mem_cons.mpr ⟨lw_p8, List.forall_mem_cons.mpr ⟨lw_p9, List.forall_mem_cons.mpr ⟨lw_p10, List.forall_mem_cons.mpr ⟨lw_p11, List.forall_mem_cons.mpr ⟨lw_p12, List.forall_mem_cons.mpr ⟨lw_p13, List.forall_mem_cons.mpr ⟨lw_p14, List.forall_mem_cons.mpr ⟨lw_p15, fun _ h => absurd h List.not_mem_nil⟩⟩⟩⟩⟩⟩⟩⟩⟩⟩⟩⟩⟩⟩⟩⟩
theorem lw_p16 : lw_okq (⟨"HeelPost$Foretold", "goUntilThere", "(II)I"⟩, 6) := ⟨⟨by decide +kernel, by decide +kernel⟩, List.mem_of_getElem? (i := 187) (by decide +kernel), List.mem_of_getElem? (i := 601) (by decide +kernel), List.mem_of_getElem? (i := 602) (by decide +kernel)⟩
theorem lw_p17 : lw_okq (⟨"HeelPost$Foretold", "reaches", "(LHeelPost$Town;III)Z"⟩, 6) := ⟨⟨by decide +kernel, by decide +kernel⟩, List.mem_of_getElem? (i := 187) (by decide +kernel), List.mem_of_getElem? (i := 636) (by decide +kernel), List.mem_of_getElem? (i := 637) (by decide +kernel)⟩
theorem lw_p18 : lw_okq (⟨"HeelPost$Foretold", "isThereWith", "(LHeelPost$Town;III)Z"⟩, 6) := ⟨⟨by decide +kernel, by decide +kernel⟩, List.mem_of_getElem? (i := 187) (by decide +kernel), List.mem_of_getElem? (i := 666) (by decide +kernel), List.mem_of_getElem? (i := 667) (by decide +kernel)⟩
theorem lw_p19 : lw_okq (⟨"HeelPost", "refusalOfTold", "(IZIII)I"⟩, 11) := ⟨⟨by decide +kernel, by decide +kernel⟩, List.mem_of_getElem? (i := 14) (by decide +kernel), List.mem_of_getElem? (i := 700) (by decide +kernel), List.mem_of_getElem? (i := 701) (by decide +kernel)⟩
theorem lw_p20 : lw_okq (⟨"HeelPost$Foretold", "fits", "(I)Z"⟩, 6) := ⟨⟨by decide +kernel, by decide +kernel⟩, List.mem_of_getElem? (i := 187) (by decide +kernel), List.mem_of_getElem? (i := 717) (by decide +kernel), List.mem_of_getElem? (i := 718) (by decide +kernel)⟩
theorem lw_p21 : lw_okq (⟨"HeelPost$Foretold", "tally", "()I"⟩, 6) := ⟨⟨by decide +kernel, by decide +kernel⟩, List.mem_of_getElem? (i := 187) (by decide +kernel), List.mem_of_getElem? (i := 749) (by decide +kernel), List.mem_of_getElem? (i := 750) (by decide +kernel)⟩
theorem lw_p22 : lw_okq (⟨"HeelPost$Asks", "asked", "(LHeelPost$Town;III)I"⟩, 2) := ⟨⟨by decide +kernel, by decide +kernel⟩, List.mem_of_getElem? (i := 214) (by decide +kernel), List.mem_of_getElem? (i := 814) (by decide +kernel), List.mem_of_getElem? (i := 815) (by decide +kernel)⟩
theorem lw_p23 : lw_okq (⟨"HeelPost$Asks", "given", "(LHeelPost$Town;III)I"⟩, 2) := ⟨⟨by decide +kernel, by decide +kernel⟩, List.mem_of_getElem? (i := 214) (by decide +kernel), List.mem_of_getElem? (i := 822) (by decide +kernel), List.mem_of_getElem? (i := 823) (by decide +kernel)⟩
theorem lw_p24 : lw_okq (⟨"HeelPost$Asks", "leave", "(I)V"⟩, 2) := ⟨⟨by decide +kernel, by decide +kernel⟩, List.mem_of_getElem? (i := 214) (by decide +kernel), List.mem_of_getElem? (i := 826) (by decide +kernel), List.mem_of_getElem? (i := 827) (by decide +kernel)⟩
theorem lw_p25 : lw_okq (⟨"HeelPostModel", "finding", "(I)I"⟩, 26) := ⟨⟨by decide +kernel, by decide +kernel⟩, List.mem_of_getElem? (i := 852) (by decide +kernel), List.mem_of_getElem? (i := 951) (by decide +kernel), List.mem_of_getElem? (i := 952) (by decide +kernel)⟩
theorem lw_p26 : lw_okq (⟨"HeelPostModel", "startUp", "()V"⟩, 26) := ⟨⟨by decide +kernel, by decide +kernel⟩, List.mem_of_getElem? (i := 852) (by decide +kernel), List.mem_of_getElem? (i := 982) (by decide +kernel), List.mem_of_getElem? (i := 983) (by decide +kernel)⟩
theorem lw_p27 : lw_okq (⟨"HeelPostModel", "nextToken", "()V"⟩, 26) := ⟨⟨by decide +kernel, by decide +kernel⟩, List.mem_of_getElem? (i := 852) (by decide +kernel), List.mem_of_getElem? (i := 986) (by decide +kernel), List.mem_of_getElem? (i := 987) (by decide +kernel)⟩
theorem lw_p28 : lw_okq (⟨"HeelPostModel", "isLetter", "(I)Z"⟩, 26) := ⟨⟨by decide +kernel, by decide +kernel⟩, List.mem_of_getElem? (i := 852) (by decide +kernel), List.mem_of_getElem? (i := 995) (by decide +kernel), List.mem_of_getElem? (i := 996) (by decide +kernel)⟩
theorem lw_p29 : lw_okq (⟨"HeelPostModel", "must", "(Z)V"⟩, 26) := ⟨⟨by decide +kernel, by decide +kernel⟩, List.mem_of_getElem? (i := 852) (by decide +kernel), List.mem_of_getElem? (i := 999) (by decide +kernel), List.mem_of_getElem? (i := 1000) (by decide +kernel)⟩
theorem lw_p30 : lw_okq (⟨"HeelPostModel", "bad", "(I)V"⟩, 26) := ⟨⟨by decide +kernel, by decide +kernel⟩, List.mem_of_getElem? (i := 852) (by decide +kernel), List.mem_of_getElem? (i := 1003) (by decide +kernel), List.mem_of_getElem? (i := 1004) (by decide +kernel)⟩
theorem lw_p31 : lw_okq (⟨"HeelPostModel", "number", "(II)I"⟩, 26) := ⟨⟨by decide +kernel, by decide +kernel⟩, List.mem_of_getElem? (i := 852) (by decide +kernel), List.mem_of_getElem? (i := 1007) (by decide +kernel), List.mem_of_getElem? (i := 1008) (by decide +kernel)⟩
def lw_privs_2 : List (MethodName × Nat) := [(⟨"HeelPost$Foretold", "goUntilThere", "(II)I"⟩, 6), (⟨"HeelPost$Foretold", "reaches", "(LHeelPost$Town;III)Z"⟩, 6), (⟨"HeelPost$Foretold", "isThereWith", "(LHeelPost$Town;III)Z"⟩, 6), (⟨"HeelPost", "refusalOfTold", "(IZIII)I"⟩, 11), (⟨"HeelPost$Foretold", "fits", "(I)Z"⟩, 6), (⟨"HeelPost$Foretold", "tally", "()I"⟩, 6), (⟨"HeelPost$Asks", "asked", "(LHeelPost$Town;III)I"⟩, 2), (⟨"HeelPost$Asks", "given", "(LHeelPost$Town;III)I"⟩, 2), (⟨"HeelPost$Asks", "leave", "(I)V"⟩, 2), (⟨"HeelPostModel", "finding", "(I)I"⟩, 26), (⟨"HeelPostModel", "startUp", "()V"⟩, 26), (⟨"HeelPostModel", "nextToken", "()V"⟩, 26), (⟨"HeelPostModel", "isLetter", "(I)Z"⟩, 26), (⟨"HeelPostModel", "must", "(Z)V"⟩, 26), (⟨"HeelPostModel", "bad", "(I)V"⟩, 26), (⟨"HeelPostModel", "number", "(II)I"⟩, 26)]
theorem lw_r2 : ∀ q ∈ lw_privs_2, lw_okq q := List.forall_mem_cons.mpr ⟨lw_p16, List.forall_mem_cons.mpr ⟨lw_p17, List.forall_mem_cons.mpr ⟨lw_p18, List.forall_mem_cons.mpr ⟨lw_p19, List.forall_mem_cons.mpr ⟨lw_p20, List.forall_mem_cons.mpr ⟨lw_p21, List.forall_mem_cons.mpr ⟨lw_p22, List.forall_mem_cons.mpr ⟨lw_p23, List.forall_mem_cons.mpr ⟨lw_p24, List.forall_mem_cons.mpr ⟨lw_p25, List.forall_mem_cons.mpr ⟨lw_p26, List.forall_mem_cons.mpr ⟨lw_p27, List.forall_mem_cons.mpr ⟨lw_p28, List.forall_mem_cons.mpr ⟨lw_p29, List.forall_mem_cons.mpr ⟨lw_p30, List.forall_mem_cons.mpr ⟨lw_p31, fun _ h => absurd h List.not_mem_nil⟩⟩⟩⟩⟩⟩⟩⟩⟩⟩⟩⟩⟩⟩⟩⟩
theorem lw_p32 : lw_okq (⟨"HeelPostModel", "mustSign", "(I)V"⟩, 26) := ⟨⟨by decide +kernel, by decide +kernel⟩, List.mem_of_getElem? (i := 852) (by decide +kernel), List.mem_of_getElem? (i := 1011) (by decide +kernel), List.mem_of_getElem? (i := 1012) (by decide +kernel)⟩
theorem lw_p33 : lw_okq (⟨"HeelPostModel", "isSort", "()Z"⟩, 26) := ⟨⟨by decide +kernel, by decide +kernel⟩, List.mem_of_getElem? (i := 852) (by decide +kernel), List.mem_of_getElem? (i := 1015) (by decide +kernel), List.mem_of_getElem? (i := 1016) (by decide +kernel)⟩
theorem lw_p34 : lw_okq (⟨"HeelPostModel", "readPerson", "()V"⟩, 26) := ⟨⟨by decide +kernel, by decide +kernel⟩, List.mem_of_getElem? (i := 852) (by decide +kernel), List.mem_of_getElem? (i := 1022) (by decide +kernel), List.mem_of_getElem? (i := 1023) (by decide +kernel)⟩
theorem lw_p35 : lw_okq (⟨"HeelPostModel", "failed", "()Z"⟩, 26) := ⟨⟨by decide +kernel, by decide +kernel⟩, List.mem_of_getElem? (i := 852) (by decide +kernel), List.mem_of_getElem? (i := 1026) (by decide +kernel), List.mem_of_getElem? (i := 1027) (by decide +kernel)⟩
theorem lw_p36 : lw_okq (⟨"HeelPostModel", "isThere", "()Z"⟩, 26) := ⟨⟨by decide +kernel, by decide +kernel⟩, List.mem_of_getElem? (i := 852) (by decide +kernel), List.mem_of_getElem? (i := 1035) (by decide +kernel), List.mem_of_getElem? (i := 1036) (by decide +kernel)⟩
theorem lw_p37 : lw_okq (⟨"HeelPostModel", "keep", "()V"⟩, 26) := ⟨⟨by decide +kernel, by decide +kernel⟩, List.mem_of_getElem? (i := 852) (by decide +kernel), List.mem_of_getElem? (i := 1041) (by decide +kernel), List.mem_of_getElem? (i := 1042) (by decide +kernel)⟩
theorem lw_p38 : lw_okq (⟨"HeelPostModel", "hour", "([I)I"⟩, 26) := ⟨⟨by decide +kernel, by decide +kernel⟩, List.mem_of_getElem? (i := 852) (by decide +kernel), List.mem_of_getElem? (i := 1045) (by decide +kernel), List.mem_of_getElem? (i := 1046) (by decide +kernel)⟩
theorem lw_p39 : lw_okq (⟨"HeelPostModel", "findCarriers", "([I)V"⟩, 26) := ⟨⟨by decide +kernel, by decide +kernel⟩, List.mem_of_getElem? (i := 852) (by decide +kernel), List.mem_of_getElem? (i := 1049) (by decide +kernel), List.mem_of_getElem? (i := 1050) (by decide +kernel)⟩
theorem lw_p40 : lw_okq (⟨"HeelPostModel", "isPosted", "(I)Z"⟩, 26) := ⟨⟨by decide +kernel, by decide +kernel⟩, List.mem_of_getElem? (i := 852) (by decide +kernel), List.mem_of_getElem? (i := 1078) (by decide +kernel), List.mem_of_getElem? (i := 1079) (by decide +kernel)⟩
theorem lw_p41 : lw_okq (⟨"HeelPostModel", "isLane", "(I)Z"⟩, 26) := ⟨⟨by decide +kernel, by decide +kernel⟩, List.mem_of_getElem? (i := 852) (by decide +kernel), List.mem_of_getElem? (i := 1083) (by decide +kernel), List.mem_of_getElem? (i := 1084) (by decide +kernel)⟩
theorem lw_p42 : lw_okq (⟨"HeelPostModel", "isPerson", "(I)Z"⟩, 26) := ⟨⟨by decide +kernel, by decide +kernel⟩, List.mem_of_getElem? (i := 852) (by decide +kernel), List.mem_of_getElem? (i := 1101) (by decide +kernel), List.mem_of_getElem? (i := 1102) (by decide +kernel)⟩
theorem lw_p43 : lw_okq (⟨"HeelPostModel", "layThen", "()V"⟩, 26) := ⟨⟨by decide +kernel, by decide +kernel⟩, List.mem_of_getElem? (i := 852) (by decide +kernel), List.mem_of_getElem? (i := 1136) (by decide +kernel), List.mem_of_getElem? (i := 1137) (by decide +kernel)⟩
theorem lw_p44 : lw_okq (⟨"HeelPostModel", "hoursOf", "([II)V"⟩, 26) := ⟨⟨by decide +kernel, by decide +kernel⟩, List.mem_of_getElem? (i := 852) (by decide +kernel), List.mem_of_getElem? (i := 1140) (by decide +kernel), List.mem_of_getElem? (i := 1141) (by decide +kernel)⟩
theorem lw_p45 : lw_okq (⟨"HeelPostModel", "doneBy", "(II)I"⟩, 26) := ⟨⟨by decide +kernel, by decide +kernel⟩, List.mem_of_getElem? (i := 852) (by decide +kernel), List.mem_of_getElem? (i := 1148) (by decide +kernel), List.mem_of_getElem? (i := 1149) (by decide +kernel)⟩
theorem lw_p46 : lw_okq (⟨"HeelPostModel", "spotsBy", "(II)I"⟩, 26) := ⟨⟨by decide +kernel, by decide +kernel⟩, List.mem_of_getElem? (i := 852) (by decide +kernel), List.mem_of_getElem? (i := 1164) (by decide +kernel), List.mem_of_getElem? (i := 1165) (by decide +kernel)⟩
theorem lw_p47 : lw_okq (⟨"HeelPostModel", "up", "()I"⟩, 26) := ⟨⟨by decide +kernel, by decide +kernel⟩, List.mem_of_getElem? (i := 852) (by decide +kernel), List.mem_of_getElem? (i := 1176) (by decide +kernel), List.mem_of_getElem? (i := 1177) (by decide +kernel)⟩
def lw_privs_3 : List (MethodName × Nat) := [(⟨"HeelPostModel", "mustSign", "(I)V"⟩, 26), (⟨"HeelPostModel", "isSort", "()Z"⟩, 26), (⟨"HeelPostModel", "readPerson", "()V"⟩, 26), (⟨"HeelPostModel", "failed", "()Z"⟩, 26), (⟨"HeelPostModel", "isThere", "()Z"⟩, 26), (⟨"HeelPostModel", "keep", "()V"⟩, 26), (⟨"HeelPostModel", "hour", "([I)I"⟩, 26), (⟨"HeelPostModel", "findCarriers", "([I)V"⟩, 26), (⟨"HeelPostModel", "isPosted", "(I)Z"⟩, 26), (⟨"HeelPostModel", "isLane", "(I)Z"⟩, 26), (⟨"HeelPostModel", "isPerson", "(I)Z"⟩, 26), (⟨"HeelPostModel", "layThen", "()V"⟩, 26), (⟨"HeelPostModel", "hoursOf", "([II)V"⟩, 26), (⟨"HeelPostModel", "doneBy", "(II)I"⟩, 26), (⟨"HeelPostModel", "spotsBy", "(II)I"⟩, 26), (⟨"HeelPostModel", "up", "()I"⟩, 26)]
theorem lw_r3 : ∀ q ∈ lw_privs_3, lw_okq q := List.forall_mem_cons.mpr ⟨lw_p32, List.forall_mem_cons.mpr ⟨lw_p33, List.forall_mem_cons.mpr ⟨lw_p34, List.forall_mem_cons.mpr ⟨lw_p35, List.forall_mem_cons.mpr ⟨lw_p36, List.forall_mem_cons.mpr ⟨lw_p37, List.forall_mem_cons.mpr ⟨lw_p38, List.forall_mem_cons.mpr ⟨lw_p39, List.forall_mem_cons.mpr ⟨lw_p40, List.forall_mem_cons.mpr ⟨lw_p41, List.forall_mem_cons.mpr ⟨lw_p42, List.forall_mem_cons.mpr ⟨lw_p43, List.forall_mem_cons.mpr ⟨lw_p44, List.forall_mem_cons.mpr ⟨lw_p45, List.forall_mem_cons.mpr ⟨lw_p46, List.forall_mem_cons.mpr ⟨lw_p47, fun _ h => absurd h List.not_mem_nil⟩⟩⟩⟩⟩⟩⟩⟩⟩⟩⟩⟩⟩⟩⟩⟩
theorem lw_p48 : lw_okq (⟨"HeelPostModel", "rowFound", "(III)I"⟩, 26) := ⟨⟨by decide +kernel, by decide +kernel⟩, List.mem_of_getElem? (i := 852) (by decide +kernel), List.mem_of_getElem? (i := 1200) (by decide +kernel), List.mem_of_getElem? (i := 1201) (by decide +kernel)⟩
theorem lw_p49 : lw_okq (⟨"HeelPostModel", "isSo", "(III)Z"⟩, 26) := ⟨⟨by decide +kernel, by decide +kernel⟩, List.mem_of_getElem? (i := 852) (by decide +kernel), List.mem_of_getElem? (i := 1204) (by decide +kernel), List.mem_of_getElem? (i := 1205) (by decide +kernel)⟩
theorem lw_p50 : lw_okq (⟨"HeelPostModel", "sizeOf", "(I)I"⟩, 26) := ⟨⟨by decide +kernel, by decide +kernel⟩, List.mem_of_getElem? (i := 852) (by decide +kernel), List.mem_of_getElem? (i := 1258) (by decide +kernel), List.mem_of_getElem? (i := 1259) (by decide +kernel)⟩
theorem lw_p51 : lw_okq (⟨"HeelPostModel", "maidSize", "(I)I"⟩, 26) := ⟨⟨by decide +kernel, by decide +kernel⟩, List.mem_of_getElem? (i := 852) (by decide +kernel), List.mem_of_getElem? (i := 1262) (by decide +kernel), List.mem_of_getElem? (i := 1263) (by decide +kernel)⟩
theorem lw_p52 : lw_okq (⟨"HeelPostModel", "began", "(I)V"⟩, 26) := ⟨⟨by decide +kernel, by decide +kernel⟩, List.mem_of_getElem? (i := 852) (by decide +kernel), List.mem_of_getElem? (i := 1266) (by decide +kernel), List.mem_of_getElem? (i := 1267) (by decide +kernel)⟩
theorem lw_p53 : lw_okq (⟨"HeelPostModel", "plainSize", "(I)I"⟩, 26) := ⟨⟨by decide +kernel, by decide +kernel⟩, List.mem_of_getElem? (i := 852) (by decide +kernel), List.mem_of_getElem? (i := 1270) (by decide +kernel), List.mem_of_getElem? (i := 1271) (by decide +kernel)⟩
theorem lw_p54 : lw_okq (⟨"HeelPostModel", "markOf", "(I)I"⟩, 26) := ⟨⟨by decide +kernel, by decide +kernel⟩, List.mem_of_getElem? (i := 852) (by decide +kernel), List.mem_of_getElem? (i := 1274) (by decide +kernel), List.mem_of_getElem? (i := 1275) (by decide +kernel)⟩
def lw_privs_4 : List (MethodName × Nat) := [(⟨"HeelPostModel", "rowFound", "(III)I"⟩, 26), (⟨"HeelPostModel", "isSo", "(III)Z"⟩, 26), (⟨"HeelPostModel", "sizeOf", "(I)I"⟩, 26), (⟨"HeelPostModel", "maidSize", "(I)I"⟩, 26), (⟨"HeelPostModel", "began", "(I)V"⟩, 26), (⟨"HeelPostModel", "plainSize", "(I)I"⟩, 26), (⟨"HeelPostModel", "markOf", "(I)I"⟩, 26)]
theorem lw_r4 : ∀ q ∈ lw_privs_4, lw_okq q := List.forall_mem_cons.mpr ⟨lw_p48, List.forall_mem_cons.mpr ⟨lw_p49, List.forall_mem_cons.mpr ⟨lw_p50, List.forall_mem_cons.mpr ⟨lw_p51, List.forall_mem_cons.mpr ⟨lw_p52, List.forall_mem_cons.mpr ⟨lw_p53, List.forall_mem_cons.mpr ⟨lw_p54, fun _ h => absurd h List.not_mem_nil⟩⟩⟩⟩⟩⟩⟩
def lw_privs : List (MethodName × Nat) := lw_privs_1 ++ (lw_privs_2 ++ (lw_privs_3 ++ (lw_privs_4)))
def lw_tbl : List Cond := k2_sels lw_privs ++ tables_1
theorem lw_privs_ok : ∀ q ∈ lw_privs, lw_okq q := by
  show ∀ q ∈ lw_privs_1 ++ (lw_privs_2 ++ (lw_privs_3 ++ (lw_privs_4))), lw_okq q
  exact List.forall_mem_append.mpr ⟨lw_r1, List.forall_mem_append.mpr ⟨lw_r2, List.forall_mem_append.mpr ⟨lw_r3, lw_r4⟩⟩⟩
end
section
/-! ===== BEGIN words of one list among another's, by their places ===== -/
theorem goodIn_r {big : List Cond} (ws : List Cond) (ps : List Nat) (hp : ws = ps.filterMap (fun i => big[i]?)) (h : ws.all goodWord = true) : GoodIn big ws := by
  intro w hw
  have h1 := List.all_eq_true.mp h w hw
  rw [hp] at hw
  obtain ⟨i, -, hi⟩ := List.mem_filterMap.mp hw
  have hm : w ∈ big := by first | exact List.mem_of_getElem? hi | exact List.getElem?_mem hi
  exact ⟨hm, good_of_word h1⟩
theorem goodIn_app {big a b : List Cond} (ha : GoodIn big a) (hb : GoodIn big b) : GoodIn big (a ++ b) := fun w h => (List.mem_append.mp h).elim (ha w) (hb w)
theorem goodIn_ca {big a b : List Cond} {c : Cond} (ha : GoodIn big (c :: a)) (hb : GoodIn big b) : GoodIn big (c :: (a ++ b)) := fun w h => (List.mem_cons.mp h).elim (fun e => ha w (List.mem_cons.mpr (Or.inl e))) (fun h => (List.mem_append.mp h).elim (fun h => ha w (List.mem_cons.mpr (Or.inr h))) (hb w))
theorem goodIn_sub {big ws : List Cond} (hm : ∀ w ∈ ws, w ∈ big) (h : ws.all goodWord = true) : GoodIn big ws := fun w hw => ⟨hm w hw, good_of_word (List.all_eq_true.mp h w hw)⟩
/-! ===== END ===== -/

/-! ===== BEGIN new T[n][m]: the outer array a place, the inner ones among the pooled ===== -/
/-- f, but v at every address of l -/
def vr_up {α : Type} (f : Nat → α) (l : List Nat) (v : α) : Nat → α := fun a => if a ∈ l then v else f a
theorem vr_up_in {α : Type} {f : Nat → α} {l : List Nat} {v : α} {a : Nat} (h : a ∈ l) : vr_up f l v a = v := if_pos h
theorem vr_up_ne {α : Type} {f : Nat → α} {l : List Nat} {v : α} {a : Nat} (h : a ∉ l) : vr_up f l v a = f a := if_neg h
theorem vr_rows {L l : List Nat} {f : Nat → va_E} {e : va_E} (h : ∀ a, a ∈ l → a ∉ L) : va_pl L f ++ l.map (fun a => (a, e)) = va_pl (L ++ l) (vr_up f l e) := by
  unfold va_pl
  rw [List.map_append]
  congr 1
  · apply List.map_congr_left
    intro a ha
    rw [vr_up_ne (fun q => h a q ha)]
  · apply List.map_congr_left
    intro a ha
    rw [vr_up_in ha]
theorem vr_lay {X rows : va_W} {x : Nat × va_E} {pl : va_W} {D : va_G} {cl : List vw_C} {H : Heap} (hP : va_P D cl (((X ++ pl) ++ [x]) ++ rows) H) : va_P D cl ((X ++ [x]) ++ (pl ++ rows)) H := by
  rw [List.append_assoc (X ++ pl)] at hP
  have h := va_P.swap hP
  rw [← List.append_assoc X] at h
  have h2 := va_P.swap h
  rw [List.append_assoc (X ++ [x])] at h2
  exact h2
theorem vr_layD {X rows : va_W} {x : Nat × va_E} {pl : va_W} {A : Nat → Prop} (hD : va_D A (((X ++ pl) ++ [x]) ++ rows)) : va_D A ((X ++ [x]) ++ (pl ++ rows)) := by
  rw [List.append_assoc (X ++ pl)] at hD
  have h := va_D.swap hD
  rw [← List.append_assoc X] at h
  have h2 := va_D.swap h
  rw [List.append_assoc (X ++ [x])] at h2
  exact h2
theorem vr_outer (c : ClassId) (N h0 : Nat) : ∀ i : Nat, Jvm.Free.Multi.outerC c N h0 i = arrV c N (fun j => va_rf (if j < i then some (h0 + 1 + j) else none))
  | 0 => by
    show ({ cls := c, slots := Array.replicate N .null, vm := .none } : Cell) = _
    rw [arrV_new]
    refine congrArg (arrV c N) (funext fun j => ?_)
    simp [va_rf]
  | i + 1 => by
    show (Jvm.Free.Multi.outerC c N h0 i).setSlot i (.ref (h0 + 1 + i)) = _
    rw [vr_outer c N h0 i, arrV_store]
    refine congrArg (arrV c N) (funext fun j => ?_)
    by_cases e : j = i
    · subst e
      simp [updV, va_rf]
    · by_cases h : j < i
      · simp [updV, e, h, Nat.lt_succ_of_lt h]
      · simp [updV, e, h, show ¬ j < i + 1 by omega]
/-- of an array over an array's type, as va_AO says it of an object's -/
def va_AOA (t : FieldType) (U : State) : Prop := (Cond.arrayOver (.array t)).before #[] U = true
theorem va_AOA.of {t : FieldType} {A : Array Value} {U : State} (h : (Cond.arrayOver (.array t)).before A U = true) : va_AOA t U := h
theorem va_AOA.use {t : FieldType} {A : Array Value} {U : State} (h : va_AOA t U) : (Cond.arrayOver (.array t)).before A U = true := h
section VGM
variable {p : Program} {l : Launch} {e : Env} {R : Room} {s : State} {m : MethodId} {args : Array Value} {below : List Frame} {meth : Method} {c : Code} {H : Heap} {locs : List Loc} {cells slots : Nat} {Q : State → Prop}
variable {cc : ByteArray} {pc : Nat} {ls : Array Slot} {rest : List Value} {D : va_G} {cl : List vw_C} {A : Nat → Prop} {a : Nat} {tys : List (ClassId × FieldType)} {ws : va_W} {H0 : Heap}
theorem va_mna {X : va_W} {L : List Nat} {f : Nat → va_E} {cc : ByteArray} (hexec : p.tables.exec = Jvm.exec) (hb : c.code = cc) {own : String} {index : Nat} {ty : FieldType} {cy : ClassId} (hown : s.vm.findClass own = some m.cls) (hclink : (Cond.classLink own index ("[" ++ (FieldType.array ty).toString)).before args s = true) (hover : va_AOA ty s) (harr : (Cond.arrayClass ty).before args s = true) (hcy : s.vm.findClass (FieldType.array ty).toString = some cy)
    (hK : va_K D cl tys s) (hP : va_P D cl (X ++ va_pl L f) H) (hD : va_D A (X ++ va_pl L f)) (hS : va_S A H0 H locs) (hA : ∀ q, H0.size ≤ q → A q) {n k : Int32} {N' K' : Nat} {z : vp_A} (hn : ¬ n < 0) (hk : ¬ k < 0) (hN : n.toNatClampNeg = N') (hM : k.toNatClampNeg = K')
    (hb1 : N' * 4 ≤ 536870912) (hb2 : K' * componentBytes ty ≤ 536870912) (hb3 : K' ≤ 536870912) (hdf : fits ty (defaultValue ty) = true) (hdd : (defaultValue ty).isDefault = true) (hcells : cells + (1 + N') ≤ R.cells) (hslots : slots + (N' + N' * K') ≤ R.slots) (hz : ∀ c : ClassId, Jvm.Free.Multi.innerC c K' (defaultValue ty) = vp_cell c z) (hdg : decode cc pc = .ok (.multianewarray index 2, 4))
    (kk : ∀ (q : Nat) (r : Nat → Nat) (cA : ClassId) (H1 : Heap), (∀ i j : Nat, i < N' → j < N' → r i = r j → i = j) → (∀ i : Nat, i < N' → r i ∉ L) → va_K D cl (tys ++ [(cA, .array ty)]) s →
      va_P D cl ((X ++ [(q, .inl (cA, N', .inr (.inr (.inr (.inr (fun i => if i < N' then some (r i) else none))))))]) ++ va_pl (L ++ (List.range N').map r) (vr_up f ((List.range N').map r) (.inl (cy, z)))) H1 → va_D A ((X ++ [(q, .inl (cA, N', .inr (.inr (.inr (.inr (fun i => if i < N' then some (r i) else none))))))]) ++ va_pl (L ++ (List.range N').map r) (vr_up f ((List.range N').map r) (.inl (cy, z)))) → va_S A H0 H1 locs →
      W p l e R s m args below meth c H1 locs (cells + 1 + N') (slots + N' + N' * K') Q (F0 m (pc + 4) ls (.ref q :: rest))) : W p l e R s m args below meth c H locs cells slots Q (F0 m pc ls (.int k :: .int n :: rest)) := by
  subst hN
  subst hM
  intro T hT Xs
  obtain ⟨vm₁, cA, comp, -, fA, fC, hO, -, X', step⟩ := Xs.multianewarray2F hexec hown hclink (va_AOA.use hover) harr (g := F0 m pc ls (.int k :: .int n :: rest)) rfl (by rw [hb]; exact hdg) rfl hn hk hb1 hb2 hb3 hdf hdd hcells hslots
  have ec : some cy = some comp := hcy.symm.trans fC
  cases ec
  generalize hF : Jvm.Free.Multi.fill (T.setVm vm₁) cA cy n.toNatClampNeg k.toNatClampNeg (defaultValue ty) n.toNatClampNeg = F at X' step
  have hTh : (T.setVm vm₁).heap = H := hT
  obtain ⟨f1, f2, -, -⟩ := Jvm.Free.Multi.fill_facts (T.setVm vm₁) cA cy n.toNatClampNeg k.toNatClampNeg (defaultValue ty) n.toNatClampNeg
  rw [hF, hTh] at f1 f2
  have hold : ∀ x : Nat, x < H.size → F.heap[x]? = H[x]? := fun x hx => by
    have := Jvm.Free.Multi.fill_old (T.setVm vm₁) cA cy n.toNatClampNeg k.toNatClampNeg (defaultValue ty) (a := x) (by rw [hTh]; exact hx) n.toNatClampNeg
    rw [hF, hTh] at this
    exact this
  have hrow : ∀ j : Nat, j < n.toNatClampNeg → F.heap[H.size + 1 + j]? = some (vp_cell cy z) := fun j hj => by
    have := Jvm.Free.Multi.fill_inner (T.setVm vm₁) cA cy n.toNatClampNeg k.toNatClampNeg (defaultValue ty) n.toNatClampNeg j hj
    rw [hF, hTh, hz] at this
    exact this
  have hout : Jvm.Free.Multi.outerC cA n.toNatClampNeg H.size n.toNatClampNeg = vp_cell cA (n.toNatClampNeg, .inr (.inr (.inr (.inr (fun i => if i < n.toNatClampNeg then some (H.size + 1 + i) else none))))) := by
    rw [vp_cell_q]
    exact vr_outer cA n.toNatClampNeg H.size n.toNatClampNeg
  rw [hout] at f2
  have hlt : ∀ a, a ∈ L → a < H.size := fun a ha => by
    obtain ⟨k9, hk9⟩ := va_pl_get (X := X) (f := f) ha
    exact (hP k9 _ hk9).lt
  have hnl : ∀ i : Nat, i < n.toNatClampNeg → H.size + 1 + i ∉ L := fun i _ h => by
    have := hlt _ h
    omega
  have hnm : ∀ a, a ∈ (List.range n.toNatClampNeg).map (fun i => H.size + 1 + i) → a ∉ L := fun a ha h => by
    obtain ⟨i, -, rfl⟩ := List.mem_map.mp ha
    have := hlt _ h
    omega
  have hP0 : va_P D cl (X ++ va_pl L f) F.heap := hP.kept (fun k9 x hx => hold x.1 ((hP k9 x hx).lt))
  have hP1 : va_P D cl ((X ++ va_pl L f) ++ [(H.size, .inl (cA, n.toNatClampNeg, .inr (.inr (.inr (.inr (fun i => if i < n.toNatClampNeg then some (H.size + 1 + i) else none))))))]) F.heap := hP0.app (fun k9 x hx => by
    have h0 : k9 < 1 := (List.getElem?_eq_some_iff.mp hx).1
    rw [show k9 = 0 by omega] at hx
    cases hx
    exact f2)
  have hP2 : va_P D cl (((X ++ va_pl L f) ++ [(H.size, .inl (cA, n.toNatClampNeg, .inr (.inr (.inr (.inr (fun i => if i < n.toNatClampNeg then some (H.size + 1 + i) else none))))))]) ++ ((List.range n.toNatClampNeg).map (fun i => H.size + 1 + i)).map (fun a => (a, .inl (cy, z)))) F.heap := hP1.app (fun k9 x hx => by
    obtain ⟨a, ha, rfl⟩ := List.mem_map.mp (List.mem_of_getElem? hx)
    obtain ⟨i, hi, rfl⟩ := List.mem_map.mp ha
    exact hrow i (List.mem_range.mp hi))
  have hD2 : va_D A (((X ++ va_pl L f) ++ [(H.size, .inl (cA, n.toNatClampNeg, .inr (.inr (.inr (.inr (fun i => if i < n.toNatClampNeg then some (H.size + 1 + i) else none))))))]) ++ ((List.range n.toNatClampNeg).map (fun i => H.size + 1 + i)).map (fun a => (a, .inl (cy, z)))) := by
    have hD1 := hD.push (e := .inl (cA, n.toNatClampNeg, .inr (.inr (.inr (.inr (fun i => if i < n.toNatClampNeg then some (H.size + 1 + i) else none)))))) hP rfl (hA _ hS.1)
    generalize hW1 : (X ++ va_pl L f) ++ [(H.size, .inl (cA, n.toNatClampNeg, .inr (.inr (.inr (.inr (fun i => if i < n.toNatClampNeg then some (H.size + 1 + i) else none))))))] = W1 at hD1 hP1 ⊢
    have hle : ∀ (k9 : Nat) (x : Nat × va_E), W1[k9]? = some x → x.1 ≤ H.size := fun k9 x hx => by
      rw [← hW1] at hx
      by_cases hl : k9 < (X ++ va_pl L f).length
      · rw [List.getElem?_append_left hl] at hx
        exact Nat.le_of_lt ((hP k9 x hx).lt)
      · rw [List.getElem?_append_right (by omega)] at hx
        have h0 : k9 - (X ++ va_pl L f).length < 1 := (List.getElem?_eq_some_iff.mp hx).1
        rw [show k9 - (X ++ va_pl L f).length = 0 by omega] at hx
        cases hx
        exact Nat.le_refl _
    have hr : ∀ (k9 : Nat) (x : Nat × va_E), (((List.range n.toNatClampNeg).map (fun i => H.size + 1 + i)).map (fun a => ((a, .inl (cy, z)) : Nat × va_E)))[k9]? = some x → x.1 = H.size + 1 + k9 := fun k9 x hx => by
      rw [List.getElem?_map, List.getElem?_map] at hx
      by_cases h9 : k9 < n.toNatClampNeg
      · rw [List.getElem?_range h9] at hx
        cases hx
        rfl
      · have hn0 : (List.range n.toNatClampNeg)[k9]? = none := List.getElem?_eq_none (by rw [List.length_range]; omega)
        rw [hn0] at hx
        cases hx
    refine ⟨fun i j x y hi hj hxy => ?_, fun k9 x hx => ?_⟩
    · by_cases h1 : i < W1.length <;> by_cases h2 : j < W1.length
      · rw [List.getElem?_append_left h1] at hi
        rw [List.getElem?_append_left h2] at hj
        exact hD1.1 i j x y hi hj hxy
      · rw [List.getElem?_append_left h1] at hi
        rw [List.getElem?_append_right (by omega)] at hj
        have := hle _ _ hi
        have := hr _ _ hj
        omega
      · rw [List.getElem?_append_right (by omega)] at hi
        rw [List.getElem?_append_left h2] at hj
        have := hle _ _ hj
        have := hr _ _ hi
        omega
      · rw [List.getElem?_append_right (by omega)] at hi hj
        have := hr _ _ hi
        have := hr _ _ hj
        omega
    · by_cases h1 : k9 < W1.length
      · rw [List.getElem?_append_left h1] at hx
        exact hD1.2 k9 x hx
      · rw [List.getElem?_append_right (by omega)] at hx
        have := hr _ _ hx
        exact hA _ (by have := hS.1; omega)
  have hAr : ArrOfT s cA (.array ty) := fun N9 z9 => by
    obtain ⟨-, k9, hk9, cm9, hkk9⟩ := (hO 0 0 0).1
    exact ⟨(fun q hq => by cases hq), k9, hk9, cm9, hkk9⟩
  have hK2 : va_K D cl (tys ++ [(cA, .array ty)]) s := ⟨hK.1, fun k9 x hx => by
    by_cases hl : k9 < tys.length
    · rw [List.getElem?_append_left hl] at hx
      exact hK.2 k9 x hx
    · rw [List.getElem?_append_right (by omega)] at hx
      have h0 : k9 - tys.length < 1 := (List.getElem?_eq_some_iff.mp hx).1
      rw [show k9 - tys.length = 0 by omega] at hx
      cases hx
      exact ⟨hAr, fA⟩⟩
  obtain ⟨t, a1, b1⟩ := kk H.size (fun i => H.size + 1 + i) cA F.heap (fun i j _ _ h => by have h9 : H.size + 1 + i = H.size + 1 + j := h; omega) hnl hK2 (by rw [← vr_rows hnm]; exact vr_lay hP2) (by rw [← vr_rows hnm]; exact vr_layD hD2) ⟨by rw [f1]; have := hS.1; omega, fun x h1 h2 => (hold x (Nat.lt_of_lt_of_le h1 hS.1)).trans (hS.2.1 x h1 h2), hS.2.2⟩ F rfl X'
  refine ⟨t, step t ?_, b1⟩
  have e : T.heap.size = H.size := by rw [hT]
  rw [e]
  exact a1
end VGM
/-! ===== END ===== -/

def RX0 : String := "HeelPost$Acts"
def TX0 : u_T := fun k => match k with
  | 0 => ("HeelPost$Acts", "before", "[LHeelPost$Town;", true)
  | 1 => ("HeelPost$Acts", "oldest", "I", false)
  | _ => ("HeelPost$Acts", "size", "I", false)
def tyX0 : Nat → FieldType := fun k => match k with
  | 0 => .array (.object "HeelPost$Town")
  | 1 => .int
  | _ => .int
theorem nmX0 : ∀ a, a < 3 → ∀ b, b < 3 → a ≠ b → (TX0 a).2.1 ≠ (TX0 b).2.1 := by decide +kernel
theorem tyX0_ok : ∀ k, k < 3 → parseFieldDescriptor (TX0 k).2.2.1 = some (tyX0 k) := by decide +kernel
abbrev cX0_init : ByteArray := prog_2_method_1_code
def yX0_init : MethodName := ⟨RX0, "<init>", "()V"⟩
abbrev cX0_size : ByteArray := prog_2_method_2_code
def yX0_size : MethodName := ⟨RX0, "size", "()I"⟩
abbrev cX0_forget : ByteArray := prog_2_method_3_code
def yX0_forget : MethodName := ⟨RX0, "forget", "()V"⟩
abbrev cX0_keep : ByteArray := prog_2_method_4_code
def yX0_keep : MethodName := ⟨RX0, "keep", "(LHeelPost$Town;)V"⟩
abbrev cX0_takeBack : ByteArray := prog_2_method_5_code
def yX0_takeBack : MethodName := ⟨RX0, "takeBack", "(LHeelPost$Town;)Z"⟩
def RX1 : String := "HeelPost$Asks"
def TX1 : u_T := fun k => match k with
  | 0 => ("HeelPost$Asks", "traces", "[I", true)
  | _ => ("HeelPost$Asks", "length", "I", false)
def tyX1 : Nat → FieldType := fun k => match k with
  | 0 => .array .int
  | _ => .int
theorem nmX1 : ∀ a, a < 2 → ∀ b, b < 2 → a ≠ b → (TX1 a).2.1 ≠ (TX1 b).2.1 := by decide +kernel
theorem tyX1_ok : ∀ k, k < 2 → parseFieldDescriptor (TX1 k).2.2.1 = some (tyX1 k) := by decide +kernel
abbrev cX1_init : ByteArray := prog_3_method_1_code
def yX1_init : MethodName := ⟨RX1, "<init>", "()V"⟩
abbrev cX1_isOne : ByteArray := prog_3_method_2_code
def yX1_isOne : MethodName := ⟨RX1, "isOne", "(II)Z"⟩
abbrev cX1_traced : ByteArray := prog_3_method_3_code
def yX1_traced : MethodName := ⟨RX1, "traced", "(I)I"⟩
abbrev cX1_put : ByteArray := prog_3_method_4_code
def yX1_put : MethodName := ⟨RX1, "put", "(LHeelPost$Town;II)I"⟩
abbrev cX1_asked : ByteArray := prog_3_method_5_code
def yX1_asked : MethodName := ⟨RX1, "asked", "(LHeelPost$Town;III)I"⟩
abbrev cX1_given : ByteArray := prog_3_method_6_code
def yX1_given : MethodName := ⟨RX1, "given", "(LHeelPost$Town;III)I"⟩
abbrev cX1_leave : ByteArray := prog_3_method_7_code
def yX1_leave : MethodName := ⟨RX1, "leave", "(I)V"⟩
def RX2 : String := "HeelPost$Errands"
def TX2 : u_T := fun k => match k with
  | 0 => ("HeelPost$Errands", "places", "[[I", true)
  | 1 => ("HeelPost$Errands", "goingUp", "[I", true)
  | 2 => ("HeelPost$Errands", "goingDown", "[I", true)
  | 3 => ("HeelPost$Errands", "carriers", "[I", true)
  | 4 => ("HeelPost$Errands", "first", "I", false)
  | 5 => ("HeelPost$Errands", "span", "I", false)
  | 6 => ("HeelPost$Errands", "laden", "I", false)
  | _ => ("HeelPost$Errands", "halfLaden", "I", false)
def tyX2 : Nat → FieldType := fun k => match k with
  | 0 => .array (.array .int)
  | 1 => .array .int
  | 2 => .array .int
  | 3 => .array .int
  | 4 => .int
  | 5 => .int
  | 6 => .int
  | _ => .int
theorem nmX2 : ∀ a, a < 8 → ∀ b, b < 8 → a ≠ b → (TX2 a).2.1 ≠ (TX2 b).2.1 := by decide +kernel
theorem tyX2_ok : ∀ k, k < 8 → parseFieldDescriptor (TX2 k).2.2.1 = some (tyX2 k) := by decide +kernel
abbrev cX2_init : ByteArray := prog_4_method_1_code
def yX2_init : MethodName := ⟨RX2, "<init>", "()V"⟩
abbrev cX2_foresee : ByteArray := prog_4_method_2_code
def yX2_foresee : MethodName := ⟨RX2, "foresee", "(LHeelPost$Town;I)V"⟩
abbrev cX2_foreseeOne : ByteArray := prog_4_method_3_code
def yX2_foreseeOne : MethodName := ⟨RX2, "foreseeOne", "(LHeelPost$Town;I)V"⟩
abbrev cX2_pass : ByteArray := prog_4_method_4_code
def yX2_pass : MethodName := ⟨RX2, "pass", "(LHeelPost$Town;)V"⟩
abbrev cX2_carrierOf : ByteArray := prog_4_method_5_code
def yX2_carrierOf : MethodName := ⟨RX2, "carrierOf", "(LHeelPost$Town;II)I"⟩
abbrev cX2_carryOn : ByteArray := prog_4_method_6_code
def yX2_carryOn : MethodName := ⟨RX2, "carryOn", "(LHeelPost$Town;II)V"⟩
abbrev cX2_carrierThen : ByteArray := prog_4_method_7_code
def yX2_carrierThen : MethodName := ⟨RX2, "carrierThen", "(I)I"⟩
def RX3 : String := "HeelPost$Foretold"
def TX3 : u_T := fun k => match k with
  | 0 => ("HeelPost$Foretold", "errands", "LHeelPost$Errands;", true)
  | 1 => ("HeelPost$Foretold", "trial", "LHeelPost$Town;", true)
  | 2 => ("HeelPost$Foretold", "later", "LHeelPost$Town;", true)
  | 3 => ("HeelPost$Foretold", "carried", "[I", true)
  | 4 => ("HeelPost$Foretold", "heard", "[I", true)
  | _ => ("HeelPost$Foretold", "heardHours", "I", false)
def tyX3 : Nat → FieldType := fun k => match k with
  | 0 => .object "HeelPost$Errands"
  | 1 => .object "HeelPost$Town"
  | 2 => .object "HeelPost$Town"
  | 3 => .array .int
  | 4 => .array .int
  | _ => .int
theorem nmX3 : ∀ a, a < 6 → ∀ b, b < 6 → a ≠ b → (TX3 a).2.1 ≠ (TX3 b).2.1 := by decide +kernel
theorem tyX3_ok : ∀ k, k < 6 → parseFieldDescriptor (TX3 k).2.2.1 = some (tyX3 k) := by decide +kernel
abbrev cX3_init : ByteArray := prog_5_method_1_code
def yX3_init : MethodName := ⟨RX3, "<init>", "(LHeelPost$Errands;)V"⟩
abbrev cX3_prepare : ByteArray := prog_5_method_2_code
def yX3_prepare : MethodName := ⟨RX3, "prepare", "(LHeelPost$Town;I)V"⟩
abbrev cX3_goUntilThere : ByteArray := prog_5_method_3_code
def yX3_goUntilThere : MethodName := ⟨RX3, "goUntilThere", "(II)I"⟩
abbrev cX3_nextCarrier : ByteArray := prog_5_method_4_code
def yX3_nextCarrier : MethodName := ⟨RX3, "nextCarrier", "(LHeelPost$Town;I)I"⟩
abbrev cX3_placeBehind : ByteArray := prog_5_method_5_code
def yX3_placeBehind : MethodName := ⟨RX3, "placeBehind", "(LHeelPost$Town;II)I"⟩
abbrev cX3_arrival : ByteArray := prog_5_method_6_code
def yX3_arrival : MethodName := ⟨RX3, "arrival", "(LHeelPost$Town;I)I"⟩
abbrev cX3_carriersOf : ByteArray := prog_5_method_7_code
def yX3_carriersOf : MethodName := ⟨RX3, "carriersOf", "(LHeelPost$Town;II)I"⟩
abbrev cX3_soonest : ByteArray := prog_5_method_8_code
def yX3_soonest : MethodName := ⟨RX3, "soonest", "(LHeelPost$Town;III)I"⟩
abbrev cX3_reaches : ByteArray := prog_5_method_9_code
def yX3_reaches : MethodName := ⟨RX3, "reaches", "(LHeelPost$Town;III)Z"⟩
abbrev cX3_spotsFor : ByteArray := prog_5_method_10_code
def yX3_spotsFor : MethodName := ⟨RX3, "spotsFor", "(LHeelPost$Town;II)I"⟩
abbrev cX3_unreached : ByteArray := prog_5_method_11_code
def yX3_unreached : MethodName := ⟨RX3, "unreached", "(LHeelPost$Town;)I"⟩
abbrev cX3_isThereWith : ByteArray := prog_5_method_12_code
def yX3_isThereWith : MethodName := ⟨RX3, "isThereWith", "(LHeelPost$Town;III)Z"⟩
abbrev cX3_fewest : ByteArray := prog_5_method_13_code
def yX3_fewest : MethodName := ⟨RX3, "fewest", "(LHeelPost$Town;III)I"⟩
abbrev cX3_neededFor : ByteArray := prog_5_method_14_code
def yX3_neededFor : MethodName := ⟨RX3, "neededFor", "(LHeelPost$Town;II)I"⟩
abbrev cX3_meeting : ByteArray := prog_5_method_15_code
def yX3_meeting : MethodName := ⟨RX3, "meeting", "(LHeelPost$Town;II)I"⟩
abbrev cX3_answerTo : ByteArray := prog_5_method_16_code
def yX3_answerTo : MethodName := ⟨RX3, "answerTo", "(LHeelPost$Town;I)I"⟩
abbrev cX3_hear : ByteArray := prog_5_method_17_code
def yX3_hear : MethodName := ⟨RX3, "hear", "(LHeelPost$Rows;III)V"⟩
abbrev cX3_fits : ByteArray := prog_5_method_18_code
def yX3_fits : MethodName := ⟨RX3, "fits", "(I)Z"⟩
abbrev cX3_kindsThatFit : ByteArray := prog_5_method_19_code
def yX3_kindsThatFit : MethodName := ⟨RX3, "kindsThatFit", "(LHeelPost$Town;II)I"⟩
abbrev cX3_beginsThatFit : ByteArray := prog_5_method_20_code
def yX3_beginsThatFit : MethodName := ⟨RX3, "beginsThatFit", "(LHeelPost$Town;II)I"⟩
abbrev cX3_absentThatFit : ByteArray := prog_5_method_21_code
def yX3_absentThatFit : MethodName := ⟨RX3, "absentThatFit", "(LHeelPost$Town;I)I"⟩
abbrev cX3_goalsThatFit : ByteArray := prog_5_method_22_code
def yX3_goalsThatFit : MethodName := ⟨RX3, "goalsThatFit", "(LHeelPost$Town;I)I"⟩
abbrev cX3_busiest : ByteArray := prog_5_method_23_code
def yX3_busiest : MethodName := ⟨RX3, "busiest", "(LHeelPost$Town;II)I"⟩
abbrev cX3_tally : ByteArray := prog_5_method_24_code
def yX3_tally : MethodName := ⟨RX3, "tally", "()I"⟩
abbrev cX3_likelihood : ByteArray := prog_5_method_25_code
def yX3_likelihood : MethodName := ⟨RX3, "likelihood", "(LHeelPost$Town;IIII)J"⟩
abbrev cX3_power : ByteArray := prog_5_method_26_code
def yX3_power : MethodName := ⟨RX3, "power", "(JI)J"⟩
abbrev cX3_commonDivisor : ByteArray := prog_5_method_27_code
def yX3_commonDivisor : MethodName := ⟨RX3, "commonDivisor", "(JJ)J"⟩
abbrev cX3_weeks : ByteArray := prog_5_method_28_code
def yX3_weeks : MethodName := ⟨RX3, "weeks", "(LHeelPost$Town;III)I"⟩
def RX4 : String := "HeelPost$Rows"
def TX4 : u_T := fun k => match k with
  | 0 => ("HeelPost$Rows", "items", "[[I", true)
  | 1 => ("HeelPost$Rows", "lanes", "[I", true)
  | _ => ("HeelPost$Rows", "lengths", "[I", true)
def tyX4 : Nat → FieldType := fun k => match k with
  | 0 => .array (.array .int)
  | 1 => .array .int
  | _ => .array .int
theorem nmX4 : ∀ a, a < 3 → ∀ b, b < 3 → a ≠ b → (TX4 a).2.1 ≠ (TX4 b).2.1 := by decide +kernel
theorem tyX4_ok : ∀ k, k < 3 → parseFieldDescriptor (TX4 k).2.2.1 = some (tyX4 k) := by decide +kernel
abbrev cX4_init : ByteArray := prog_6_method_1_code
def yX4_init : MethodName := ⟨RX4, "<init>", "()V"⟩
abbrev cX4_isRow : ByteArray := prog_6_method_2_code
def yX4_isRow : MethodName := ⟨RX4, "isRow", "(I)Z"⟩
abbrev cX4_isThere : ByteArray := prog_6_method_3_code
def yX4_isThere : MethodName := ⟨RX4, "isThere", "(I)Z"⟩
abbrev cX4_laneOf : ByteArray := prog_6_method_4_code
def yX4_laneOf : MethodName := ⟨RX4, "laneOf", "(I)I"⟩
abbrev cX4_lengthOf : ByteArray := prog_6_method_5_code
def yX4_lengthOf : MethodName := ⟨RX4, "lengthOf", "(I)I"⟩
abbrev cX4_howMany : ByteArray := prog_6_method_6_code
def yX4_howMany : MethodName := ⟨RX4, "howMany", "()I"⟩
abbrev cX4_make : ByteArray := prog_6_method_7_code
def yX4_make : MethodName := ⟨RX4, "make", "(III)V"⟩
abbrev cX4_lose : ByteArray := prog_6_method_8_code
def yX4_lose : MethodName := ⟨RX4, "lose", "(I)V"⟩
abbrev cX4_hasPlaces : ByteArray := prog_6_method_9_code
def yX4_hasPlaces : MethodName := ⟨RX4, "hasPlaces", "(III)Z"⟩
abbrev cX4_findingOf : ByteArray := prog_6_method_10_code
def yX4_findingOf : MethodName := ⟨RX4, "findingOf", "(III)I"⟩
abbrev cX4_itemAt : ByteArray := prog_6_method_11_code
def yX4_itemAt : MethodName := ⟨RX4, "itemAt", "(II)I"⟩
abbrev cX4_put : ByteArray := prog_6_method_12_code
def yX4_put : MethodName := ⟨RX4, "put", "(III)I"⟩
abbrev cX4_carryOver : ByteArray := prog_6_method_13_code
def yX4_carryOver : MethodName := ⟨RX4, "carryOver", "(IIIII)V"⟩
abbrev cX4_cut : ByteArray := prog_6_method_14_code
def yX4_cut : MethodName := ⟨RX4, "cut", "(II)I"⟩
def RX5 : String := "HeelPost$Tape"
def TX5 : u_T := fun k => match k with
  | 0 => ("HeelPost$Tape", "bytes", "[I", true)
  | 1 => ("HeelPost$Tape", "length", "I", false)
  | 2 => ("HeelPost$Tape", "at", "I", false)
  | 3 => ("HeelPost$Tape", "faultNumber", "I", false)
  | _ => ("HeelPost$Tape", "faultPlace", "I", false)
def tyX5 : Nat → FieldType := fun k => match k with
  | 0 => .array .int
  | 1 => .int
  | 2 => .int
  | 3 => .int
  | _ => .int
theorem nmX5 : ∀ a, a < 5 → ∀ b, b < 5 → a ≠ b → (TX5 a).2.1 ≠ (TX5 b).2.1 := by decide +kernel
theorem tyX5_ok : ∀ k, k < 5 → parseFieldDescriptor (TX5 k).2.2.1 = some (tyX5 k) := by decide +kernel
abbrev cX5_init : ByteArray := prog_7_method_1_code
def yX5_init : MethodName := ⟨RX5, "<init>", "()V"⟩
abbrev cX5_add : ByteArray := prog_7_method_2_code
def yX5_add : MethodName := ⟨RX5, "add", "(I)Z"⟩
abbrev cX5_length : ByteArray := prog_7_method_3_code
def yX5_length : MethodName := ⟨RX5, "length", "()I"⟩
abbrev cX5_clear : ByteArray := prog_7_method_4_code
def yX5_clear : MethodName := ⟨RX5, "clear", "()V"⟩
abbrev cX5_faultPlace : ByteArray := prog_7_method_5_code
def yX5_faultPlace : MethodName := ⟨RX5, "faultPlace", "()I"⟩
abbrev cX5_read : ByteArray := prog_7_method_6_code
def yX5_read : MethodName := ⟨RX5, "read", "(LHeelPost$Town;)I"⟩
abbrev cX5_readPerson : ByteArray := prog_7_method_7_code
def yX5_readPerson : MethodName := ⟨RX5, "readPerson", "(LHeelPost$Town;)V"⟩
abbrev cX5_readSort : ByteArray := prog_7_method_8_code
def yX5_readSort : MethodName := ⟨RX5, "readSort", "(I)I"⟩
abbrev cX5_kindOf : ByteArray := prog_7_method_9_code
def yX5_kindOf : MethodName := ⟨RX5, "kindOf", "(I)I"⟩
abbrev cX5_readSign : ByteArray := prog_7_method_10_code
def yX5_readSign : MethodName := ⟨RX5, "readSign", "(I)V"⟩
abbrev cX5_readNumber : ByteArray := prog_7_method_11_code
def yX5_readNumber : MethodName := ⟨RX5, "readNumber", "(II)I"⟩
abbrev cX5_isFigure : ByteArray := prog_7_method_12_code
def yX5_isFigure : MethodName := ⟨RX5, "isFigure", "(I)Z"⟩
abbrev cX5_fail : ByteArray := prog_7_method_13_code
def yX5_fail : MethodName := ⟨RX5, "fail", "(I)V"⟩
abbrev cX5_failAt : ByteArray := prog_7_method_14_code
def yX5_failAt : MethodName := ⟨RX5, "failAt", "(II)V"⟩
def RX6 : String := "HeelPost$Town"
def TX6 : u_T := fun k => match k with
  | 0 => ("HeelPost$Town", "lanes", "I", false)
  | 1 => ("HeelPost$Town", "hoursOfDay", "I", false)
  | 2 => ("HeelPost$Town", "people", "I", false)
  | 3 => ("HeelPost$Town", "hour", "I", false)
  | 4 => ("HeelPost$Town", "out", "I", false)
  | 5 => ("HeelPost$Town", "home", "I", false)
  | 6 => ("HeelPost$Town", "kinds", "[I", true)
  | 7 => ("HeelPost$Town", "from", "[I", true)
  | 8 => ("HeelPost$Town", "to", "[I", true)
  | 9 => ("HeelPost$Town", "begins", "[I", true)
  | 10 => ("HeelPost$Town", "lies", "[I", true)
  | _ => ("HeelPost$Town", "goal", "[I", true)
def tyX6 : Nat → FieldType := fun k => match k with
  | 0 => .int
  | 1 => .int
  | 2 => .int
  | 3 => .int
  | 4 => .int
  | 5 => .int
  | 6 => .array .int
  | 7 => .array .int
  | 8 => .array .int
  | 9 => .array .int
  | 10 => .array .int
  | _ => .array .int
theorem nmX6 : ∀ a, a < 12 → ∀ b, b < 12 → a ≠ b → (TX6 a).2.1 ≠ (TX6 b).2.1 := by decide +kernel
theorem tyX6_ok : ∀ k, k < 12 → parseFieldDescriptor (TX6 k).2.2.1 = some (tyX6 k) := by decide +kernel
abbrev cX6_init : ByteArray := prog_8_method_1_code
def yX6_init : MethodName := ⟨RX6, "<init>", "()V"⟩
abbrev cX6_stands : ByteArray := prog_8_method_2_code
def yX6_stands : MethodName := ⟨RX6, "stands", "()Z"⟩
abbrev cX6_clear : ByteArray := prog_8_method_3_code
def yX6_clear : MethodName := ⟨RX6, "clear", "()V"⟩
abbrev cX6_take : ByteArray := prog_8_method_4_code
def yX6_take : MethodName := ⟨RX6, "take", "(LHeelPost$Town;)V"⟩
abbrev cX6_takeLetters : ByteArray := prog_8_method_5_code
def yX6_takeLetters : MethodName := ⟨RX6, "takeLetters", "(LHeelPost$Town;)V"⟩
abbrev cX6_settle : ByteArray := prog_8_method_6_code
def yX6_settle : MethodName := ⟨RX6, "settle", "(IIII)V"⟩
abbrev cX6_putOut : ByteArray := prog_8_method_7_code
def yX6_putOut : MethodName := ⟨RX6, "putOut", "(III)V"⟩
abbrev cX6_isOut : ByteArray := prog_8_method_8_code
def yX6_isOut : MethodName := ⟨RX6, "isOut", "(I)Z"⟩
abbrev cX6_isThere : ByteArray := prog_8_method_9_code
def yX6_isThere : MethodName := ⟨RX6, "isThere", "(I)Z"⟩
abbrev cX6_isUnderWay : ByteArray := prog_8_method_10_code
def yX6_isUnderWay : MethodName := ⟨RX6, "isUnderWay", "(I)Z"⟩
abbrev cX6_arrived : ByteArray := prog_8_method_11_code
def yX6_arrived : MethodName := ⟨RX6, "arrived", "()I"⟩
abbrev cX6_isHome : ByteArray := prog_8_method_12_code
def yX6_isHome : MethodName := ⟨RX6, "isHome", "(I)Z"⟩
abbrev cX6_everybody : ByteArray := prog_8_method_13_code
def yX6_everybody : MethodName := ⟨RX6, "everybody", "()I"⟩
abbrev cX6_whereIs : ByteArray := prog_8_method_14_code
def yX6_whereIs : MethodName := ⟨RX6, "whereIs", "(II)I"⟩
abbrev cX6_peopleIn : ByteArray := prog_8_method_15_code
def yX6_peopleIn : MethodName := ⟨RX6, "peopleIn", "(I)I"⟩
abbrev cX6_placeOnErrand : ByteArray := prog_8_method_16_code
def yX6_placeOnErrand : MethodName := ⟨RX6, "placeOnErrand", "(II)I"⟩
abbrev cX6_stepsOf : ByteArray := prog_8_method_17_code
def yX6_stepsOf : MethodName := ⟨RX6, "stepsOf", "(IIZ)I"⟩
def RX7 : String := "HeelPost"
def TX7 : u_T := fun k => match k with
  | 0 => ("HeelPost", "rows", "LHeelPost$Rows;", true)
  | 1 => ("HeelPost", "tape", "LHeelPost$Tape;", true)
  | 2 => ("HeelPost", "now", "LHeelPost$Town;", true)
  | 3 => ("HeelPost", "told", "LHeelPost$Town;", true)
  | 4 => ("HeelPost", "acts", "LHeelPost$Acts;", true)
  | 5 => ("HeelPost", "errands", "LHeelPost$Errands;", true)
  | 6 => ("HeelPost", "foretold", "LHeelPost$Foretold;", true)
  | 7 => ("HeelPost", "asks", "LHeelPost$Asks;", true)
  | 8 => ("HeelPost", "images", "[LHeelPost$Town;", true)
  | 9 => ("HeelPost", "latestFault", "I", false)
  | _ => ("HeelPost", "latestFinding", "I", false)
def tyX7 : Nat → FieldType := fun k => match k with
  | 0 => .object "HeelPost$Rows"
  | 1 => .object "HeelPost$Tape"
  | 2 => .object "HeelPost$Town"
  | 3 => .object "HeelPost$Town"
  | 4 => .object "HeelPost$Acts"
  | 5 => .object "HeelPost$Errands"
  | 6 => .object "HeelPost$Foretold"
  | 7 => .object "HeelPost$Asks"
  | 8 => .array (.object "HeelPost$Town")
  | 9 => .int
  | _ => .int
theorem nmX7 : ∀ a, a < 11 → ∀ b, b < 11 → a ≠ b → (TX7 a).2.1 ≠ (TX7 b).2.1 := by decide +kernel
theorem tyX7_ok : ∀ k, k < 11 → parseFieldDescriptor (TX7 k).2.2.1 = some (tyX7 k) := by decide +kernel
abbrev cX7_init : ByteArray := prog_1_method_1_code
def yX7_init : MethodName := ⟨RX7, "<init>", "()V"⟩
abbrev cX7_row : ByteArray := prog_1_method_2_code
def yX7_row : MethodName := ⟨RX7, "row", "(III)I"⟩
abbrev cX7_set : ByteArray := prog_1_method_3_code
def yX7_set : MethodName := ⟨RX7, "set", "(III)I"⟩
abbrev cX7_copy : ByteArray := prog_1_method_4_code
def yX7_copy : MethodName := ⟨RX7, "copy", "(IIIII)I"⟩
abbrev cX7_drop : ByteArray := prog_1_method_5_code
def yX7_drop : MethodName := ⟨RX7, "drop", "(I)I"⟩
abbrev cX7_feed : ByteArray := prog_1_method_6_code
def yX7_feed : MethodName := ⟨RX7, "feed", "(I)I"⟩
abbrev cX7_town : ByteArray := prog_1_method_7_code
def yX7_town : MethodName := ⟨RX7, "town", "()I"⟩
abbrev cX7_fault : ByteArray := prog_1_method_8_code
def yX7_fault : MethodName := ⟨RX7, "fault", "()I"⟩
abbrev cX7_undo : ByteArray := prog_1_method_9_code
def yX7_undo : MethodName := ⟨RX7, "undo", "()I"⟩
abbrev cX7_hours : ByteArray := prog_1_method_10_code
def yX7_hours : MethodName := ⟨RX7, "hours", "(I)I"⟩
abbrev cX7_post : ByteArray := prog_1_method_11_code
def yX7_post : MethodName := ⟨RX7, "post", "(III)I"⟩
abbrev cX7_callBack : ByteArray := prog_1_method_12_code
def yX7_callBack : MethodName := ⟨RX7, "callBack", "(I)I"⟩
abbrev cX7_begin : ByteArray := prog_1_method_13_code
def yX7_begin : MethodName := ⟨RX7, "begin", "(II)I"⟩
abbrev cX7_stay : ByteArray := prog_1_method_14_code
def yX7_stay : MethodName := ⟨RX7, "stay", "(II)I"⟩
abbrev cX7_person : ByteArray := prog_1_method_15_code
def yX7_person : MethodName := ⟨RX7, "person", "(II)I"⟩
abbrev cX7_letter : ByteArray := prog_1_method_16_code
def yX7_letter : MethodName := ⟨RX7, "letter", "(II)I"⟩
abbrev cX7_lane : ByteArray := prog_1_method_17_code
def yX7_lane : MethodName := ⟨RX7, "lane", "(I)I"⟩
abbrev cX7_ahead : ByteArray := prog_1_method_18_code
def yX7_ahead : MethodName := ⟨RX7, "ahead", "(II)I"⟩
abbrev cX7_letterAhead : ByteArray := prog_1_method_19_code
def yX7_letterAhead : MethodName := ⟨RX7, "letterAhead", "(II)I"⟩
abbrev cX7_arrives : ByteArray := prog_1_method_20_code
def yX7_arrives : MethodName := ⟨RX7, "arrives", "(I)I"⟩
abbrev cX7_carriers : ByteArray := prog_1_method_21_code
def yX7_carriers : MethodName := ⟨RX7, "carriers", "(II)I"⟩
abbrev cX7_bestHour : ByteArray := prog_1_method_22_code
def yX7_bestHour : MethodName := ⟨RX7, "bestHour", "(III)I"⟩
abbrev cX7_spots : ByteArray := prog_1_method_23_code
def yX7_spots : MethodName := ⟨RX7, "spots", "(II)I"⟩
abbrev cX7_cutOff : ByteArray := prog_1_method_24_code
def yX7_cutOff : MethodName := ⟨RX7, "cutOff", "()I"⟩
abbrev cX7_crew : ByteArray := prog_1_method_25_code
def yX7_crew : MethodName := ⟨RX7, "crew", "(III)I"⟩
abbrev cX7_needed : ByteArray := prog_1_method_26_code
def yX7_needed : MethodName := ⟨RX7, "needed", "(II)I"⟩
abbrev cX7_meet : ByteArray := prog_1_method_27_code
def yX7_meet : MethodName := ⟨RX7, "meet", "(II)I"⟩
abbrev cX7_answer : ByteArray := prog_1_method_28_code
def yX7_answer : MethodName := ⟨RX7, "answer", "(I)I"⟩
abbrev cX7_who : ByteArray := prog_1_method_29_code
def yX7_who : MethodName := ⟨RX7, "who", "(IIIIII)I"⟩
abbrev cX7_missing : ByteArray := prog_1_method_30_code
def yX7_missing : MethodName := ⟨RX7, "missing", "(IIII)I"⟩
abbrev cX7_goals : ByteArray := prog_1_method_31_code
def yX7_goals : MethodName := ⟨RX7, "goals", "(IIII)I"⟩
abbrev cX7_busy : ByteArray := prog_1_method_32_code
def yX7_busy : MethodName := ⟨RX7, "busy", "(II)I"⟩
abbrev cX7_sick : ByteArray := prog_1_method_33_code
def yX7_sick : MethodName := ⟨RX7, "sick", "(IIII)J"⟩
abbrev cX7_drawn : ByteArray := prog_1_method_34_code
def yX7_drawn : MethodName := ⟨RX7, "drawn", "(III)I"⟩
abbrev cX7_image : ByteArray := prog_1_method_35_code
def yX7_image : MethodName := ⟨RX7, "image", "(I)I"⟩
abbrev cX7_restore : ByteArray := prog_1_method_36_code
def yX7_restore : MethodName := ⟨RX7, "restore", "(I)I"⟩
abbrev cX7_kind : ByteArray := prog_1_method_37_code
def yX7_kind : MethodName := ⟨RX7, "kind", "(I)I"⟩
abbrev cX7_as : ByteArray := prog_1_method_38_code
def yX7_as : MethodName := ⟨RX7, "as", "(II)I"⟩
abbrev cX7_ask : ByteArray := prog_1_method_39_code
def yX7_ask : MethodName := ⟨RX7, "ask", "(II)I"⟩
abbrev cX7_trace : ByteArray := prog_1_method_40_code
def yX7_trace : MethodName := ⟨RX7, "trace", "(I)I"⟩
abbrev cX7_count : ByteArray := prog_1_method_41_code
def yX7_count : MethodName := ⟨RX7, "count", "(I)I"⟩
abbrev cX7_status : ByteArray := prog_1_method_42_code
def yX7_status : MethodName := ⟨RX7, "status", "()I"⟩
abbrev cX7_within : ByteArray := prog_1_method_43_code
def yX7_within : MethodName := ⟨RX7, "within", "(III)Z"⟩
abbrev cX7_isSpan : ByteArray := prog_1_method_44_code
def yX7_isSpan : MethodName := ⟨RX7, "isSpan", "(I)Z"⟩
abbrev cX7_isPerson : ByteArray := prog_1_method_45_code
def yX7_isPerson : MethodName := ⟨RX7, "isPerson", "(I)Z"⟩
abbrev cX7_isLane : ByteArray := prog_1_method_46_code
def yX7_isLane : MethodName := ⟨RX7, "isLane", "(I)Z"⟩
abbrev cX7_isLetter : ByteArray := prog_1_method_47_code
def yX7_isLetter : MethodName := ⟨RX7, "isLetter", "(I)Z"⟩
abbrev cX7_refusalOf : ByteArray := prog_1_method_48_code
def yX7_refusalOf : MethodName := ⟨RX7, "refusalOf", "(IZ)I"⟩
abbrev cX7_refusalOfTold : ByteArray := prog_1_method_49_code
def yX7_refusalOfTold : MethodName := ⟨RX7, "refusalOfTold", "(IZIII)I"⟩
abbrev cX7_found : ByteArray := prog_1_method_50_code
def yX7_found : MethodName := ⟨RX7, "found", "(I)I"⟩
abbrev cX7_unfound : ByteArray := prog_1_method_51_code
def yX7_unfound : MethodName := ⟨RX7, "unfound", "(I)I"⟩
def RX8 : String := "HeelPostModel"
def TX8 : u_T := fun k => match k with
  | 0 => ("HeelPostModel", "thrown", "I", false)
  | 1 => ("HeelPostModel", "status", "I", false)
  | 2 => ("HeelPostModel", "lane", "[I", true)
  | 3 => ("HeelPostModel", "many", "[I", true)
  | 4 => ("HeelPostModel", "item", "[I", true)
  | 5 => ("HeelPostModel", "town", "[I", true)
  | 6 => ("HeelPostModel", "fresh", "[I", true)
  | 7 => ("HeelPostModel", "then", "[I", true)
  | 8 => ("HeelPostModel", "was", "[I", true)
  | 9 => ("HeelPostModel", "acts", "I", false)
  | 10 => ("HeelPostModel", "tape", "[I", true)
  | 11 => ("HeelPostModel", "taped", "I", false)
  | 12 => ("HeelPostModel", "cursor", "I", false)
  | 13 => ("HeelPostModel", "start", "I", false)
  | 14 => ("HeelPostModel", "token", "I", false)
  | 15 => ("HeelPostModel", "value", "I", false)
  | 16 => ("HeelPostModel", "fault", "I", false)
  | 17 => ("HeelPostModel", "faultAt", "I", false)
  | 18 => ("HeelPostModel", "latest", "I", false)
  | 19 => ("HeelPostModel", "carrier", "[I", true)
  | 20 => ("HeelPostModel", "load", "[I", true)
  | 21 => ("HeelPostModel", "often", "[I", true)
  | 22 => ("HeelPostModel", "isKept", "[Z", true)
  | 23 => ("HeelPostModel", "kept", "[I", true)
  | 24 => ("HeelPostModel", "trace", "[I", true)
  | _ => ("HeelPostModel", "traced", "I", false)
def tyX8 : Nat → FieldType := fun k => match k with
  | 0 => .int
  | 1 => .int
  | 2 => .array .int
  | 3 => .array .int
  | 4 => .array .int
  | 5 => .array .int
  | 6 => .array .int
  | 7 => .array .int
  | 8 => .array .int
  | 9 => .int
  | 10 => .array .int
  | 11 => .int
  | 12 => .int
  | 13 => .int
  | 14 => .int
  | 15 => .int
  | 16 => .int
  | 17 => .int
  | 18 => .int
  | 19 => .array .int
  | 20 => .array .int
  | 21 => .array .int
  | 22 => .array .boolean
  | 23 => .array .int
  | 24 => .array .int
  | _ => .int
theorem nmX8 : ∀ a, a < 26 → ∀ b, b < 26 → a ≠ b → (TX8 a).2.1 ≠ (TX8 b).2.1 := by decide +kernel
theorem tyX8_ok : ∀ k, k < 26 → parseFieldDescriptor (TX8 k).2.2.1 = some (tyX8 k) := by decide +kernel
abbrev cX8_init : ByteArray := prog_10_method_1_code
def yX8_init : MethodName := ⟨RX8, "<init>", "()V"⟩
abbrev cX8_in : ByteArray := prog_10_method_3_code
def yX8_in : MethodName := ⟨RX8, "in", "(JJJ)Z"⟩
abbrev cX8_finding : ByteArray := prog_10_method_4_code
def yX8_finding : MethodName := ⟨RX8, "finding", "(I)I"⟩
abbrev cX8_isRow : ByteArray := prog_10_method_5_code
def yX8_isRow : MethodName := ⟨RX8, "isRow", "(I)Z"⟩
abbrev cX8_row : ByteArray := prog_10_method_6_code
def yX8_row : MethodName := ⟨RX8, "row", "(III)I"⟩
abbrev cX8_set : ByteArray := prog_10_method_7_code
def yX8_set : MethodName := ⟨RX8, "set", "(III)I"⟩
abbrev cX8_copy : ByteArray := prog_10_method_8_code
def yX8_copy : MethodName := ⟨RX8, "copy", "(IIIII)I"⟩
abbrev cX8_drop : ByteArray := prog_10_method_9_code
def yX8_drop : MethodName := ⟨RX8, "drop", "(I)I"⟩
abbrev cX8_feed : ByteArray := prog_10_method_10_code
def yX8_feed : MethodName := ⟨RX8, "feed", "(I)I"⟩
abbrev cX8_bad : ByteArray := prog_10_method_11_code
def yX8_bad : MethodName := ⟨RX8, "bad", "(I)V"⟩
abbrev cX8_nextToken : ByteArray := prog_10_method_12_code
def yX8_nextToken : MethodName := ⟨RX8, "nextToken", "()V"⟩
abbrev cX8_must : ByteArray := prog_10_method_13_code
def yX8_must : MethodName := ⟨RX8, "must", "(Z)V"⟩
abbrev cX8_isLetter : ByteArray := prog_10_method_14_code
def yX8_isLetter : MethodName := ⟨RX8, "isLetter", "(I)Z"⟩
abbrev cX8_number : ByteArray := prog_10_method_15_code
def yX8_number : MethodName := ⟨RX8, "number", "(II)I"⟩
abbrev cX8_mustSign : ByteArray := prog_10_method_16_code
def yX8_mustSign : MethodName := ⟨RX8, "mustSign", "(I)V"⟩
abbrev cX8_startUp : ByteArray := prog_10_method_17_code
def yX8_startUp : MethodName := ⟨RX8, "startUp", "()V"⟩
abbrev cX8_failed : ByteArray := prog_10_method_18_code
def yX8_failed : MethodName := ⟨RX8, "failed", "()Z"⟩
abbrev cX8_fault : ByteArray := prog_10_method_19_code
def yX8_fault : MethodName := ⟨RX8, "fault", "()I"⟩
abbrev cX8_kindBy : ByteArray := prog_10_method_20_code
def yX8_kindBy : MethodName := ⟨RX8, "kindBy", "(I)I"⟩
abbrev cX8_isSort : ByteArray := prog_10_method_21_code
def yX8_isSort : MethodName := ⟨RX8, "isSort", "()Z"⟩
abbrev cX8_readPerson : ByteArray := prog_10_method_22_code
def yX8_readPerson : MethodName := ⟨RX8, "readPerson", "()V"⟩
abbrev cX8_town : ByteArray := prog_10_method_23_code
def yX8_town : MethodName := ⟨RX8, "town", "()I"⟩
abbrev cX8_isThere : ByteArray := prog_10_method_24_code
def yX8_isThere : MethodName := ⟨RX8, "isThere", "()Z"⟩
abbrev cX8_isPerson : ByteArray := prog_10_method_25_code
def yX8_isPerson : MethodName := ⟨RX8, "isPerson", "(I)Z"⟩
abbrev cX8_isLane : ByteArray := prog_10_method_26_code
def yX8_isLane : MethodName := ⟨RX8, "isLane", "(I)Z"⟩
abbrev cX8_isPosted : ByteArray := prog_10_method_27_code
def yX8_isPosted : MethodName := ⟨RX8, "isPosted", "(I)Z"⟩
abbrev cX8_bits : ByteArray := prog_10_method_28_code
def yX8_bits : MethodName := ⟨RX8, "bits", "(I)I"⟩
abbrev cX8_has : ByteArray := prog_10_method_29_code
def yX8_has : MethodName := ⟨RX8, "has", "(II)Z"⟩
abbrev cX8_of : ByteArray := prog_10_method_30_code
def yX8_of : MethodName := ⟨RX8, "of", "([III)I"⟩
abbrev cX8_its : ByteArray := prog_10_method_31_code
def yX8_its : MethodName := ⟨RX8, "its", "([III)I"⟩
abbrev cX8_isOut : ByteArray := prog_10_method_32_code
def yX8_isOut : MethodName := ⟨RX8, "isOut", "([II)Z"⟩
abbrev cX8_isDone : ByteArray := prog_10_method_33_code
def yX8_isDone : MethodName := ⟨RX8, "isDone", "([II)Z"⟩
abbrev cX8_place : ByteArray := prog_10_method_34_code
def yX8_place : MethodName := ⟨RX8, "place", "([III)I"⟩
abbrev cX8_findCarriers : ByteArray := prog_10_method_35_code
def yX8_findCarriers : MethodName := ⟨RX8, "findCarriers", "([I)V"⟩
abbrev cX8_hour : ByteArray := prog_10_method_36_code
def yX8_hour : MethodName := ⟨RX8, "hour", "([I)I"⟩
abbrev cX8_hoursOf : ByteArray := prog_10_method_37_code
def yX8_hoursOf : MethodName := ⟨RX8, "hoursOf", "([II)V"⟩
abbrev cX8_posts : ByteArray := prog_10_method_38_code
def yX8_posts : MethodName := ⟨RX8, "posts", "([IIII)V"⟩
abbrev cX8_outs : ByteArray := prog_10_method_39_code
def yX8_outs : MethodName := ⟨RX8, "outs", "([I)I"⟩
abbrev cX8_dones : ByteArray := prog_10_method_40_code
def yX8_dones : MethodName := ⟨RX8, "dones", "([I)I"⟩
abbrev cX8_layThen : ByteArray := prog_10_method_41_code
def yX8_layThen : MethodName := ⟨RX8, "layThen", "()V"⟩
abbrev cX8_doneBy : ByteArray := prog_10_method_42_code
def yX8_doneBy : MethodName := ⟨RX8, "doneBy", "(II)I"⟩
abbrev cX8_keep : ByteArray := prog_10_method_43_code
def yX8_keep : MethodName := ⟨RX8, "keep", "()V"⟩
abbrev cX8_hours : ByteArray := prog_10_method_44_code
def yX8_hours : MethodName := ⟨RX8, "hours", "(I)I"⟩
abbrev cX8_post : ByteArray := prog_10_method_45_code
def yX8_post : MethodName := ⟨RX8, "post", "(III)I"⟩
abbrev cX8_callBack : ByteArray := prog_10_method_46_code
def yX8_callBack : MethodName := ⟨RX8, "callBack", "(I)I"⟩
abbrev cX8_begin : ByteArray := prog_10_method_47_code
def yX8_begin : MethodName := ⟨RX8, "begin", "(II)I"⟩
abbrev cX8_stay : ByteArray := prog_10_method_48_code
def yX8_stay : MethodName := ⟨RX8, "stay", "(II)I"⟩
abbrev cX8_undo : ByteArray := prog_10_method_49_code
def yX8_undo : MethodName := ⟨RX8, "undo", "()I"⟩
abbrev cX8_person : ByteArray := prog_10_method_50_code
def yX8_person : MethodName := ⟨RX8, "person", "(II)I"⟩
abbrev cX8_letter : ByteArray := prog_10_method_51_code
def yX8_letter : MethodName := ⟨RX8, "letter", "(II)I"⟩
abbrev cX8_lane : ByteArray := prog_10_method_52_code
def yX8_lane : MethodName := ⟨RX8, "lane", "(I)I"⟩
abbrev cX8_ahead : ByteArray := prog_10_method_53_code
def yX8_ahead : MethodName := ⟨RX8, "ahead", "(II)I"⟩
abbrev cX8_letterAhead : ByteArray := prog_10_method_54_code
def yX8_letterAhead : MethodName := ⟨RX8, "letterAhead", "(II)I"⟩
abbrev cX8_arrives : ByteArray := prog_10_method_55_code
def yX8_arrives : MethodName := ⟨RX8, "arrives", "(I)I"⟩
abbrev cX8_carriers : ByteArray := prog_10_method_56_code
def yX8_carriers : MethodName := ⟨RX8, "carriers", "(II)I"⟩
abbrev cX8_bestHour : ByteArray := prog_10_method_57_code
def yX8_bestHour : MethodName := ⟨RX8, "bestHour", "(III)I"⟩
abbrev cX8_spotsBy : ByteArray := prog_10_method_58_code
def yX8_spotsBy : MethodName := ⟨RX8, "spotsBy", "(II)I"⟩
abbrev cX8_spots : ByteArray := prog_10_method_59_code
def yX8_spots : MethodName := ⟨RX8, "spots", "(II)I"⟩
abbrev cX8_cutOff : ByteArray := prog_10_method_60_code
def yX8_cutOff : MethodName := ⟨RX8, "cutOff", "()I"⟩
abbrev cX8_up : ByteArray := prog_10_method_61_code
def yX8_up : MethodName := ⟨RX8, "up", "()I"⟩
abbrev cX8_crew : ByteArray := prog_10_method_62_code
def yX8_crew : MethodName := ⟨RX8, "crew", "(III)I"⟩
abbrev cX8_needed : ByteArray := prog_10_method_63_code
def yX8_needed : MethodName := ⟨RX8, "needed", "(II)I"⟩
abbrev cX8_meet : ByteArray := prog_10_method_64_code
def yX8_meet : MethodName := ⟨RX8, "meet", "(II)I"⟩
abbrev cX8_answer : ByteArray := prog_10_method_65_code
def yX8_answer : MethodName := ⟨RX8, "answer", "(I)I"⟩
abbrev cX8_isSo : ByteArray := prog_10_method_66_code
def yX8_isSo : MethodName := ⟨RX8, "isSo", "(III)Z"⟩
abbrev cX8_rowFound : ByteArray := prog_10_method_67_code
def yX8_rowFound : MethodName := ⟨RX8, "rowFound", "(III)I"⟩
abbrev cX8_who : ByteArray := prog_10_method_68_code
def yX8_who : MethodName := ⟨RX8, "who", "(IIIIII)I"⟩
abbrev cX8_missing : ByteArray := prog_10_method_69_code
def yX8_missing : MethodName := ⟨RX8, "missing", "(IIII)I"⟩
abbrev cX8_goals : ByteArray := prog_10_method_70_code
def yX8_goals : MethodName := ⟨RX8, "goals", "(IIII)I"⟩
abbrev cX8_busy : ByteArray := prog_10_method_71_code
def yX8_busy : MethodName := ⟨RX8, "busy", "(II)I"⟩
abbrev cX8_sick : ByteArray := prog_10_method_72_code
def yX8_sick : MethodName := ⟨RX8, "sick", "(IIII)J"⟩
abbrev cX8_drawn : ByteArray := prog_10_method_73_code
def yX8_drawn : MethodName := ⟨RX8, "drawn", "(III)I"⟩
abbrev cX8_image : ByteArray := prog_10_method_74_code
def yX8_image : MethodName := ⟨RX8, "image", "(I)I"⟩
abbrev cX8_restore : ByteArray := prog_10_method_75_code
def yX8_restore : MethodName := ⟨RX8, "restore", "(I)I"⟩
abbrev cX8_isOf : ByteArray := prog_10_method_76_code
def yX8_isOf : MethodName := ⟨RX8, "isOf", "(II)Z"⟩
abbrev cX8_kind : ByteArray := prog_10_method_77_code
def yX8_kind : MethodName := ⟨RX8, "kind", "(I)I"⟩
abbrev cX8_as : ByteArray := prog_10_method_78_code
def yX8_as : MethodName := ⟨RX8, "as", "(II)I"⟩
abbrev cX8_began : ByteArray := prog_10_method_79_code
def yX8_began : MethodName := ⟨RX8, "began", "(I)V"⟩
abbrev cX8_plainSize : ByteArray := prog_10_method_80_code
def yX8_plainSize : MethodName := ⟨RX8, "plainSize", "(I)I"⟩
abbrev cX8_maidSize : ByteArray := prog_10_method_81_code
def yX8_maidSize : MethodName := ⟨RX8, "maidSize", "(I)I"⟩
abbrev cX8_markOf : ByteArray := prog_10_method_82_code
def yX8_markOf : MethodName := ⟨RX8, "markOf", "(I)I"⟩
abbrev cX8_sizeOf : ByteArray := prog_10_method_83_code
def yX8_sizeOf : MethodName := ⟨RX8, "sizeOf", "(I)I"⟩
abbrev cX8_ask : ByteArray := prog_10_method_84_code
def yX8_ask : MethodName := ⟨RX8, "ask", "(II)I"⟩
abbrev cX8_trace : ByteArray := prog_10_method_85_code
def yX8_trace : MethodName := ⟨RX8, "trace", "(I)I"⟩
abbrev cX8_count : ByteArray := prog_10_method_86_code
def yX8_count : MethodName := ⟨RX8, "count", "(I)I"⟩
abbrev cX8_status : ByteArray := prog_10_method_87_code
def yX8_status : MethodName := ⟨RX8, "status", "()I"⟩
def RJ6 : String := "java/lang/Integer"
abbrev cJ6_bitCount_0f7a4 : ByteArray := prog_11_method_49_code
def yJ6_bitCount_0f7a4 : MethodName := ⟨RJ6, "bitCount", "(I)I"⟩
def RJ9 : String := "java/lang/Math"
abbrev cJ9_abs_0f7a4 : ByteArray := prog_12_method_59_code
def yJ9_abs_0f7a4 : MethodName := ⟨RJ9, "abs", "(I)I"⟩
abbrev cJ9_max_7cf53 : ByteArray := prog_12_method_65_code
def yJ9_max_7cf53 : MethodName := ⟨RJ9, "max", "(II)I"⟩
abbrev cJ9_max_f86c9 : ByteArray := prog_12_method_66_code
def yJ9_max_f86c9 : MethodName := ⟨RJ9, "max", "(JJ)J"⟩
abbrev cJ9_min_7cf53 : ByteArray := prog_12_method_69_code
def yJ9_min_7cf53 : MethodName := ⟨RJ9, "min", "(II)I"⟩
def RJ10 : String := "java/lang/System"
def RL : String := "HeelPostLaw"
abbrev cL_law : ByteArray := code
def yL_law : MethodName := ⟨RL, "law", "([I)Z"⟩
abbrev vwCl : List vw_C := [(RX0, TX0, 3), (RX1, TX1, 2), (RX2, TX2, 8), (RX3, TX3, 6), (RX4, TX4, 3), (RX5, TX5, 5), (RX6, TX6, 12), (RX7, TX7, 11), (RX8, TX8, 26)]
end
section
theorem dX0_init_0 : decode cX0_init 0 = .ok (.aload_n 0, 1) := by decide +kernel
theorem dX0_init_1 : decode cX0_init 1 = .ok (.invokespecial 3, 3) := by decide +kernel
theorem dX0_init_4 : decode cX0_init 4 = .ok (.aload_n 0, 1) := by decide +kernel
theorem dX0_init_5 : decode cX0_init 5 = .ok (.bipush 24, 2) := by decide +kernel
theorem dX0_init_7 : decode cX0_init 7 = .ok (.anewarray 9, 3) := by decide +kernel
theorem dX0_init_10 : decode cX0_init 10 = .ok (.putfield 11, 3) := by decide +kernel
theorem dX0_init_13 : decode cX0_init 13 = .ok (.iconst 0, 1) := by decide +kernel
theorem dX0_init_14 : decode cX0_init 14 = .ok (.istore_n 1, 1) := by decide +kernel
theorem dX0_init_15 : decode cX0_init 15 = .ok (.iload_n 1, 1) := by decide +kernel
theorem dX0_init_16 : decode cX0_init 16 = .ok (.bipush 24, 2) := by decide +kernel
theorem dX0_init_18 : decode cX0_init 18 = .ok (.if_icmp .ge 22, 3) := by decide +kernel
theorem dX0_init_21 : decode cX0_init 21 = .ok (.aload_n 0, 1) := by decide +kernel
theorem dX0_init_22 : decode cX0_init 22 = .ok (.getfield 11, 3) := by decide +kernel
theorem dX0_init_25 : decode cX0_init 25 = .ok (.iload_n 1, 1) := by decide +kernel
theorem dX0_init_26 : decode cX0_init 26 = .ok (.new 9, 3) := by decide +kernel
theorem dX0_init_29 : decode cX0_init 29 = .ok (.dup, 1) := by decide +kernel
theorem dX0_init_30 : decode cX0_init 30 = .ok (.invokespecial 17, 3) := by decide +kernel
theorem dX0_init_33 : decode cX0_init 33 = .ok (.aastore, 1) := by decide +kernel
theorem dX0_init_34 : decode cX0_init 34 = .ok (.iinc 1 1, 3) := by decide +kernel
theorem dX0_init_37 : decode cX0_init 37 = .ok (.goto (-22), 3) := by decide +kernel
theorem dX0_init_40 : decode cX0_init 40 = .ok (.return_, 1) := by decide +kernel
theorem dX0_size_0 : decode cX0_size 0 = .ok (.aload_n 0, 1) := by decide +kernel
theorem dX0_size_1 : decode cX0_size 1 = .ok (.getfield 18, 3) := by decide +kernel
theorem dX0_size_4 : decode cX0_size 4 = .ok (.ireturn, 1) := by decide +kernel
theorem dX0_forget_0 : decode cX0_forget 0 = .ok (.aload_n 0, 1) := by decide +kernel
theorem dX0_forget_1 : decode cX0_forget 1 = .ok (.iconst 0, 1) := by decide +kernel
theorem dX0_forget_2 : decode cX0_forget 2 = .ok (.putfield 22, 3) := by decide +kernel
theorem dX0_forget_5 : decode cX0_forget 5 = .ok (.aload_n 0, 1) := by decide +kernel
theorem dX0_forget_6 : decode cX0_forget 6 = .ok (.iconst 0, 1) := by decide +kernel
theorem dX0_forget_7 : decode cX0_forget 7 = .ok (.putfield 18, 3) := by decide +kernel
theorem dX0_forget_10 : decode cX0_forget 10 = .ok (.return_, 1) := by decide +kernel
theorem dX0_keep_0 : decode cX0_keep 0 = .ok (.aload_n 0, 1) := by decide +kernel
theorem dX0_keep_1 : decode cX0_keep 1 = .ok (.getfield 18, 3) := by decide +kernel
theorem dX0_keep_4 : decode cX0_keep 4 = .ok (.bipush 24, 2) := by decide +kernel
theorem dX0_keep_6 : decode cX0_keep 6 = .ok (.if_icmp .ne 26, 3) := by decide +kernel
theorem dX0_keep_9 : decode cX0_keep 9 = .ok (.aload_n 0, 1) := by decide +kernel
theorem dX0_keep_10 : decode cX0_keep 10 = .ok (.aload_n 0, 1) := by decide +kernel
theorem dX0_keep_11 : decode cX0_keep 11 = .ok (.getfield 22, 3) := by decide +kernel
theorem dX0_keep_14 : decode cX0_keep 14 = .ok (.iconst 1, 1) := by decide +kernel
theorem dX0_keep_15 : decode cX0_keep 15 = .ok (.iadd, 1) := by decide +kernel
theorem dX0_keep_16 : decode cX0_keep 16 = .ok (.bipush 24, 2) := by decide +kernel
theorem dX0_keep_18 : decode cX0_keep 18 = .ok (.irem, 1) := by decide +kernel
theorem dX0_keep_19 : decode cX0_keep 19 = .ok (.putfield 22, 3) := by decide +kernel
theorem dX0_keep_22 : decode cX0_keep 22 = .ok (.aload_n 0, 1) := by decide +kernel
theorem dX0_keep_23 : decode cX0_keep 23 = .ok (.dup, 1) := by decide +kernel
theorem dX0_keep_24 : decode cX0_keep 24 = .ok (.getfield 18, 3) := by decide +kernel
theorem dX0_keep_27 : decode cX0_keep 27 = .ok (.iconst 1, 1) := by decide +kernel
theorem dX0_keep_28 : decode cX0_keep 28 = .ok (.isub, 1) := by decide +kernel
theorem dX0_keep_29 : decode cX0_keep 29 = .ok (.putfield 18, 3) := by decide +kernel
theorem dX0_keep_32 : decode cX0_keep 32 = .ok (.aload_n 0, 1) := by decide +kernel
theorem dX0_keep_33 : decode cX0_keep 33 = .ok (.getfield 11, 3) := by decide +kernel
theorem dX0_keep_36 : decode cX0_keep 36 = .ok (.aload_n 0, 1) := by decide +kernel
theorem dX0_keep_37 : decode cX0_keep 37 = .ok (.getfield 22, 3) := by decide +kernel
theorem dX0_keep_40 : decode cX0_keep 40 = .ok (.aload_n 0, 1) := by decide +kernel
theorem dX0_keep_41 : decode cX0_keep 41 = .ok (.getfield 18, 3) := by decide +kernel
theorem dX0_keep_44 : decode cX0_keep 44 = .ok (.iadd, 1) := by decide +kernel
theorem dX0_keep_45 : decode cX0_keep 45 = .ok (.bipush 24, 2) := by decide +kernel
theorem dX0_keep_47 : decode cX0_keep 47 = .ok (.irem, 1) := by decide +kernel
theorem dX0_keep_48 : decode cX0_keep 48 = .ok (.aaload, 1) := by decide +kernel
theorem dX0_keep_49 : decode cX0_keep 49 = .ok (.aload_n 1, 1) := by decide +kernel
theorem dX0_keep_50 : decode cX0_keep 50 = .ok (.invokevirtual 25, 3) := by decide +kernel
theorem dX0_keep_53 : decode cX0_keep 53 = .ok (.aload_n 0, 1) := by decide +kernel
theorem dX0_keep_54 : decode cX0_keep 54 = .ok (.dup, 1) := by decide +kernel
theorem dX0_keep_55 : decode cX0_keep 55 = .ok (.getfield 18, 3) := by decide +kernel
theorem dX0_keep_58 : decode cX0_keep 58 = .ok (.iconst 1, 1) := by decide +kernel
theorem dX0_keep_59 : decode cX0_keep 59 = .ok (.iadd, 1) := by decide +kernel
theorem dX0_keep_60 : decode cX0_keep 60 = .ok (.putfield 18, 3) := by decide +kernel
theorem dX0_keep_63 : decode cX0_keep 63 = .ok (.return_, 1) := by decide +kernel
theorem dX0_takeBack_0 : decode cX0_takeBack 0 = .ok (.aload_n 0, 1) := by decide +kernel
theorem dX0_takeBack_1 : decode cX0_takeBack 1 = .ok (.getfield 18, 3) := by decide +kernel
theorem dX0_takeBack_4 : decode cX0_takeBack 4 = .ok (.ifCond .ne 5, 3) := by decide +kernel
theorem dX0_takeBack_7 : decode cX0_takeBack 7 = .ok (.iconst 0, 1) := by decide +kernel
theorem dX0_takeBack_8 : decode cX0_takeBack 8 = .ok (.ireturn, 1) := by decide +kernel
theorem dX0_takeBack_9 : decode cX0_takeBack 9 = .ok (.aload_n 0, 1) := by decide +kernel
theorem dX0_takeBack_10 : decode cX0_takeBack 10 = .ok (.dup, 1) := by decide +kernel
theorem dX0_takeBack_11 : decode cX0_takeBack 11 = .ok (.getfield 18, 3) := by decide +kernel
theorem dX0_takeBack_14 : decode cX0_takeBack 14 = .ok (.iconst 1, 1) := by decide +kernel
theorem dX0_takeBack_15 : decode cX0_takeBack 15 = .ok (.isub, 1) := by decide +kernel
theorem dX0_takeBack_16 : decode cX0_takeBack 16 = .ok (.putfield 18, 3) := by decide +kernel
theorem dX0_takeBack_19 : decode cX0_takeBack 19 = .ok (.aload_n 1, 1) := by decide +kernel
theorem dX0_takeBack_20 : decode cX0_takeBack 20 = .ok (.aload_n 0, 1) := by decide +kernel
theorem dX0_takeBack_21 : decode cX0_takeBack 21 = .ok (.getfield 11, 3) := by decide +kernel
theorem dX0_takeBack_24 : decode cX0_takeBack 24 = .ok (.aload_n 0, 1) := by decide +kernel
theorem dX0_takeBack_25 : decode cX0_takeBack 25 = .ok (.getfield 22, 3) := by decide +kernel
theorem dX0_takeBack_28 : decode cX0_takeBack 28 = .ok (.aload_n 0, 1) := by decide +kernel
theorem dX0_takeBack_29 : decode cX0_takeBack 29 = .ok (.getfield 18, 3) := by decide +kernel
theorem dX0_takeBack_32 : decode cX0_takeBack 32 = .ok (.iadd, 1) := by decide +kernel
theorem dX0_takeBack_33 : decode cX0_takeBack 33 = .ok (.bipush 24, 2) := by decide +kernel
theorem dX0_takeBack_35 : decode cX0_takeBack 35 = .ok (.irem, 1) := by decide +kernel
theorem dX0_takeBack_36 : decode cX0_takeBack 36 = .ok (.aaload, 1) := by decide +kernel
theorem dX0_takeBack_37 : decode cX0_takeBack 37 = .ok (.invokevirtual 25, 3) := by decide +kernel
theorem dX0_takeBack_40 : decode cX0_takeBack 40 = .ok (.iconst 1, 1) := by decide +kernel
theorem dX0_takeBack_41 : decode cX0_takeBack 41 = .ok (.ireturn, 1) := by decide +kernel
theorem dX1_init_0 : decode cX1_init 0 = .ok (.aload_n 0, 1) := by decide +kernel
theorem dX1_init_1 : decode cX1_init 1 = .ok (.invokespecial 3, 3) := by decide +kernel
theorem dX1_init_4 : decode cX1_init 4 = .ok (.aload_n 0, 1) := by decide +kernel
theorem dX1_init_5 : decode cX1_init 5 = .ok (.bipush 16, 2) := by decide +kernel
theorem dX1_init_7 : decode cX1_init 7 = .ok (.newarray .int, 2) := by decide +kernel
theorem dX1_init_9 : decode cX1_init 9 = .ok (.putfield 11, 3) := by decide +kernel
theorem dX1_init_12 : decode cX1_init 12 = .ok (.return_, 1) := by decide +kernel
theorem dX1_isOne_0 : decode cX1_isOne 0 = .ok (.iload_n 0, 1) := by decide +kernel
theorem dX1_isOne_1 : decode cX1_isOne 1 = .ok (.istore_n 2, 1) := by decide +kernel
theorem dX1_isOne_2 : decode cX1_isOne 2 = .ok (.iconst 0, 1) := by decide +kernel
theorem dX1_isOne_3 : decode cX1_isOne 3 = .ok (.istore_n 3, 1) := by decide +kernel
theorem dX1_isOne_4 : decode cX1_isOne 4 = .ok (.iload_n 3, 1) := by decide +kernel
theorem dX1_isOne_5 : decode cX1_isOne 5 = .ok (.bipush 6, 2) := by decide +kernel
theorem dX1_isOne_7 : decode cX1_isOne 7 = .ok (.if_icmp .ge 24, 3) := by decide +kernel
theorem dX1_isOne_10 : decode cX1_isOne 10 = .ok (.iload_n 2, 1) := by decide +kernel
theorem dX1_isOne_11 : decode cX1_isOne 11 = .ok (.iload_n 1, 1) := by decide +kernel
theorem dX1_isOne_12 : decode cX1_isOne 12 = .ok (.if_icmp .eq 19, 3) := by decide +kernel
theorem dX1_isOne_15 : decode cX1_isOne 15 = .ok (.iload_n 2, 1) := by decide +kernel
theorem dX1_isOne_16 : decode cX1_isOne 16 = .ok (.ifCond .eq 15, 3) := by decide +kernel
theorem dX1_isOne_19 : decode cX1_isOne 19 = .ok (.getstatic 15, 3) := by decide +kernel
theorem dX1_isOne_22 : decode cX1_isOne 22 = .ok (.iload_n 2, 1) := by decide +kernel
theorem dX1_isOne_23 : decode cX1_isOne 23 = .ok (.iaload, 1) := by decide +kernel
theorem dX1_isOne_24 : decode cX1_isOne 24 = .ok (.istore_n 2, 1) := by decide +kernel
theorem dX1_isOne_25 : decode cX1_isOne 25 = .ok (.iinc 3 1, 3) := by decide +kernel
theorem dX1_isOne_28 : decode cX1_isOne 28 = .ok (.goto (-24), 3) := by decide +kernel
theorem dX1_isOne_31 : decode cX1_isOne 31 = .ok (.iload_n 2, 1) := by decide +kernel
theorem dX1_isOne_32 : decode cX1_isOne 32 = .ok (.iload_n 1, 1) := by decide +kernel
theorem dX1_isOne_33 : decode cX1_isOne 33 = .ok (.if_icmp .ne 7, 3) := by decide +kernel
theorem dX1_isOne_36 : decode cX1_isOne 36 = .ok (.iconst 1, 1) := by decide +kernel
theorem dX1_isOne_37 : decode cX1_isOne 37 = .ok (.goto 4, 3) := by decide +kernel
theorem dX1_isOne_40 : decode cX1_isOne 40 = .ok (.iconst 0, 1) := by decide +kernel
theorem dX1_isOne_41 : decode cX1_isOne 41 = .ok (.ireturn, 1) := by decide +kernel
theorem dX1_traced_0 : decode cX1_traced 0 = .ok (.iload_n 1, 1) := by decide +kernel
theorem dX1_traced_1 : decode cX1_traced 1 = .ok (.ifCond .lt 20, 3) := by decide +kernel
theorem dX1_traced_4 : decode cX1_traced 4 = .ok (.iload_n 1, 1) := by decide +kernel
theorem dX1_traced_5 : decode cX1_traced 5 = .ok (.aload_n 0, 1) := by decide +kernel
theorem dX1_traced_6 : decode cX1_traced 6 = .ok (.getfield 18, 3) := by decide +kernel
theorem dX1_traced_9 : decode cX1_traced 9 = .ok (.if_icmp .ge 12, 3) := by decide +kernel
theorem dX1_traced_12 : decode cX1_traced 12 = .ok (.aload_n 0, 1) := by decide +kernel
theorem dX1_traced_13 : decode cX1_traced 13 = .ok (.getfield 11, 3) := by decide +kernel
theorem dX1_traced_16 : decode cX1_traced 16 = .ok (.iload_n 1, 1) := by decide +kernel
theorem dX1_traced_17 : decode cX1_traced 17 = .ok (.iaload, 1) := by decide +kernel
theorem dX1_traced_18 : decode cX1_traced 18 = .ok (.goto 5, 3) := by decide +kernel
theorem dX1_traced_21 : decode cX1_traced 21 = .ok (.ldc 22, 2) := by decide +kernel
theorem dX1_traced_23 : decode cX1_traced 23 = .ok (.ireturn, 1) := by decide +kernel
theorem dX1_put_0 : decode cX1_put 0 = .ok (.aload_n 0, 1) := by decide +kernel
theorem dX1_put_1 : decode cX1_put 1 = .ok (.iconst 0, 1) := by decide +kernel
theorem dX1_put_2 : decode cX1_put 2 = .ok (.putfield 18, 3) := by decide +kernel
theorem dX1_put_5 : decode cX1_put 5 = .ok (.aload_n 0, 1) := by decide +kernel
theorem dX1_put_6 : decode cX1_put 6 = .ok (.aload_n 1, 1) := by decide +kernel
theorem dX1_put_7 : decode cX1_put 7 = .ok (.iload_n 2, 1) := by decide +kernel
theorem dX1_put_8 : decode cX1_put 8 = .ok (.iload_n 3, 1) := by decide +kernel
theorem dX1_put_9 : decode cX1_put 9 = .ok (.iconst 0, 1) := by decide +kernel
theorem dX1_put_10 : decode cX1_put 10 = .ok (.invokevirtual 23, 3) := by decide +kernel
theorem dX1_put_13 : decode cX1_put 13 = .ok (.ireturn, 1) := by decide +kernel
theorem dX1_asked_0 : decode cX1_asked 0 = .ok (.iload_n 3, 1) := by decide +kernel
theorem dX1_asked_1 : decode cX1_asked 1 = .ok (.ifCond .ne 9, 3) := by decide +kernel
theorem dX1_asked_4 : decode cX1_asked 4 = .ok (.getstatic 27, 3) := by decide +kernel
theorem dX1_asked_7 : decode cX1_asked 7 = .ok (.goto 6, 3) := by decide +kernel
theorem dX1_asked_10 : decode cX1_asked 10 = .ok (.getstatic 30, 3) := by decide +kernel
theorem dX1_asked_13 : decode cX1_asked 13 = .ok (.astore 5, 2) := by decide +kernel
theorem dX1_asked_15 : decode cX1_asked 15 = .ok (.aload_n 1, 1) := by decide +kernel
theorem dX1_asked_16 : decode cX1_asked 16 = .ok (.getfield 33, 3) := by decide +kernel
theorem dX1_asked_19 : decode cX1_asked 19 = .ok (.iload_n 2, 1) := by decide +kernel
theorem dX1_asked_20 : decode cX1_asked 20 = .ok (.iaload, 1) := by decide +kernel
theorem dX1_asked_21 : decode cX1_asked 21 = .ok (.istore 6, 2) := by decide +kernel
theorem dX1_asked_23 : decode cX1_asked 23 = .ok (.iconst 0, 1) := by decide +kernel
theorem dX1_asked_24 : decode cX1_asked 24 = .ok (.istore 7, 2) := by decide +kernel
theorem dX1_asked_26 : decode cX1_asked 26 = .ok (.iload 7, 2) := by decide +kernel
theorem dX1_asked_28 : decode cX1_asked 28 = .ok (.bipush 6, 2) := by decide +kernel
theorem dX1_asked_30 : decode cX1_asked 30 = .ok (.if_icmp .ge 25, 3) := by decide +kernel
theorem dX1_asked_33 : decode cX1_asked 33 = .ok (.aload 5, 2) := by decide +kernel
theorem dX1_asked_35 : decode cX1_asked 35 = .ok (.iload 6, 2) := by decide +kernel
theorem dX1_asked_37 : decode cX1_asked 37 = .ok (.iaload, 1) := by decide +kernel
theorem dX1_asked_38 : decode cX1_asked 38 = .ok (.ifCond .ne 17, 3) := by decide +kernel
theorem dX1_asked_41 : decode cX1_asked 41 = .ok (.getstatic 15, 3) := by decide +kernel
theorem dX1_asked_44 : decode cX1_asked 44 = .ok (.iload 6, 2) := by decide +kernel
theorem dX1_asked_46 : decode cX1_asked 46 = .ok (.iaload, 1) := by decide +kernel
theorem dX1_asked_47 : decode cX1_asked 47 = .ok (.istore 6, 2) := by decide +kernel
theorem dX1_asked_49 : decode cX1_asked 49 = .ok (.iinc 7 1, 3) := by decide +kernel
theorem dX1_asked_52 : decode cX1_asked 52 = .ok (.goto (-26), 3) := by decide +kernel
theorem dX1_asked_55 : decode cX1_asked 55 = .ok (.aload_n 0, 1) := by decide +kernel
theorem dX1_asked_56 : decode cX1_asked 56 = .ok (.aload_n 1, 1) := by decide +kernel
theorem dX1_asked_57 : decode cX1_asked 57 = .ok (.iload_n 2, 1) := by decide +kernel
theorem dX1_asked_58 : decode cX1_asked 58 = .ok (.aload 5, 2) := by decide +kernel
theorem dX1_asked_60 : decode cX1_asked 60 = .ok (.iload 6, 2) := by decide +kernel
theorem dX1_asked_62 : decode cX1_asked 62 = .ok (.iaload, 1) := by decide +kernel
theorem dX1_asked_63 : decode cX1_asked 63 = .ok (.iload 4, 2) := by decide +kernel
theorem dX1_asked_65 : decode cX1_asked 65 = .ok (.iconst 1, 1) := by decide +kernel
theorem dX1_asked_66 : decode cX1_asked 66 = .ok (.iadd, 1) := by decide +kernel
theorem dX1_asked_67 : decode cX1_asked 67 = .ok (.invokevirtual 38, 3) := by decide +kernel
theorem dX1_asked_70 : decode cX1_asked 70 = .ok (.ireturn, 1) := by decide +kernel
theorem dX1_given_0 : decode cX1_given 0 = .ok (.iload 4, 2) := by decide +kernel
theorem dX1_given_2 : decode cX1_given 2 = .ok (.bipush 12, 2) := by decide +kernel
theorem dX1_given_4 : decode cX1_given 4 = .ok (.if_icmp .le 5, 3) := by decide +kernel
theorem dX1_given_7 : decode cX1_given 7 = .ok (.iconst 0, 1) := by decide +kernel
theorem dX1_given_8 : decode cX1_given 8 = .ok (.ireturn, 1) := by decide +kernel
theorem dX1_given_9 : decode cX1_given 9 = .ok (.aload_n 0, 1) := by decide +kernel
theorem dX1_given_10 : decode cX1_given 10 = .ok (.iload_n 3, 1) := by decide +kernel
theorem dX1_given_11 : decode cX1_given 11 = .ok (.invokevirtual 41, 3) := by decide +kernel
theorem dX1_given_14 : decode cX1_given 14 = .ok (.iload 4, 2) := by decide +kernel
theorem dX1_given_16 : decode cX1_given 16 = .ok (.iconst 1, 1) := by decide +kernel
theorem dX1_given_17 : decode cX1_given 17 = .ok (.iadd, 1) := by decide +kernel
theorem dX1_given_18 : decode cX1_given 18 = .ok (.istore 5, 2) := by decide +kernel
theorem dX1_given_20 : decode cX1_given 20 = .ok (.iload_n 3, 1) := by decide +kernel
theorem dX1_given_21 : decode cX1_given 21 = .ok (.tableswitch 211 10 24 #[75, 82, 103, 115, 129, 211, 211, 211, 211, 211, 142, 144, 162, 177, 198], 75) := by decide +kernel
theorem dX1_given_96 : decode cX1_given 96 = .ok (.aload_n 1, 1) := by decide +kernel
theorem dX1_given_97 : decode cX1_given 97 = .ok (.getfield 45, 3) := by decide +kernel
theorem dX1_given_100 : decode cX1_given 100 = .ok (.iload_n 2, 1) := by decide +kernel
theorem dX1_given_101 : decode cX1_given 101 = .ok (.iaload, 1) := by decide +kernel
theorem dX1_given_102 : decode cX1_given 102 = .ok (.ireturn, 1) := by decide +kernel
theorem dX1_given_103 : decode cX1_given 103 = .ok (.aload_n 0, 1) := by decide +kernel
theorem dX1_given_104 : decode cX1_given 104 = .ok (.aload_n 1, 1) := by decide +kernel
theorem dX1_given_105 : decode cX1_given 105 = .ok (.iload_n 2, 1) := by decide +kernel
theorem dX1_given_106 : decode cX1_given 106 = .ok (.bipush 10, 2) := by decide +kernel
theorem dX1_given_108 : decode cX1_given 108 = .ok (.iload 5, 2) := by decide +kernel
theorem dX1_given_110 : decode cX1_given 110 = .ok (.invokevirtual 38, 3) := by decide +kernel
theorem dX1_given_113 : decode cX1_given 113 = .ok (.aload_n 0, 1) := by decide +kernel
theorem dX1_given_114 : decode cX1_given 114 = .ok (.aload_n 1, 1) := by decide +kernel
theorem dX1_given_115 : decode cX1_given 115 = .ok (.iload_n 2, 1) := by decide +kernel
theorem dX1_given_116 : decode cX1_given 116 = .ok (.iconst 1, 1) := by decide +kernel
theorem dX1_given_117 : decode cX1_given 117 = .ok (.iload 5, 2) := by decide +kernel
theorem dX1_given_119 : decode cX1_given 119 = .ok (.invokevirtual 23, 3) := by decide +kernel
theorem dX1_given_122 : decode cX1_given 122 = .ok (.iadd, 1) := by decide +kernel
theorem dX1_given_123 : decode cX1_given 123 = .ok (.ireturn, 1) := by decide +kernel
theorem dX1_given_124 : decode cX1_given 124 = .ok (.aload_n 0, 1) := by decide +kernel
theorem dX1_given_125 : decode cX1_given 125 = .ok (.aload_n 1, 1) := by decide +kernel
theorem dX1_given_126 : decode cX1_given 126 = .ok (.iload_n 2, 1) := by decide +kernel
theorem dX1_given_127 : decode cX1_given 127 = .ok (.bipush 11, 2) := by decide +kernel
theorem dX1_given_129 : decode cX1_given 129 = .ok (.iload 5, 2) := by decide +kernel
theorem dX1_given_131 : decode cX1_given 131 = .ok (.invokevirtual 38, 3) := by decide +kernel
theorem dX1_given_134 : decode cX1_given 134 = .ok (.ineg, 1) := by decide +kernel
theorem dX1_given_135 : decode cX1_given 135 = .ok (.ireturn, 1) := by decide +kernel
theorem dX1_given_136 : decode cX1_given 136 = .ok (.aload_n 0, 1) := by decide +kernel
theorem dX1_given_137 : decode cX1_given 137 = .ok (.aload_n 1, 1) := by decide +kernel
theorem dX1_given_138 : decode cX1_given 138 = .ok (.iload_n 2, 1) := by decide +kernel
theorem dX1_given_139 : decode cX1_given 139 = .ok (.bipush 10, 2) := by decide +kernel
theorem dX1_given_141 : decode cX1_given 141 = .ok (.iload 5, 2) := by decide +kernel
theorem dX1_given_143 : decode cX1_given 143 = .ok (.invokevirtual 38, 3) := by decide +kernel
theorem dX1_given_146 : decode cX1_given 146 = .ok (.bipush 100, 2) := by decide +kernel
theorem dX1_given_148 : decode cX1_given 148 = .ok (.isub, 1) := by decide +kernel
theorem dX1_given_149 : decode cX1_given 149 = .ok (.ireturn, 1) := by decide +kernel
theorem dX1_given_150 : decode cX1_given 150 = .ok (.aload_n 0, 1) := by decide +kernel
theorem dX1_given_151 : decode cX1_given 151 = .ok (.aload_n 1, 1) := by decide +kernel
theorem dX1_given_152 : decode cX1_given 152 = .ok (.iload_n 2, 1) := by decide +kernel
theorem dX1_given_153 : decode cX1_given 153 = .ok (.bipush 13, 2) := by decide +kernel
theorem dX1_given_155 : decode cX1_given 155 = .ok (.iload 5, 2) := by decide +kernel
theorem dX1_given_157 : decode cX1_given 157 = .ok (.invokevirtual 38, 3) := by decide +kernel
theorem dX1_given_160 : decode cX1_given 160 = .ok (.iconst 2, 1) := by decide +kernel
theorem dX1_given_161 : decode cX1_given 161 = .ok (.imul, 1) := by decide +kernel
theorem dX1_given_162 : decode cX1_given 162 = .ok (.ireturn, 1) := by decide +kernel
theorem dX1_given_163 : decode cX1_given 163 = .ok (.iload_n 2, 1) := by decide +kernel
theorem dX1_given_164 : decode cX1_given 164 = .ok (.ireturn, 1) := by decide +kernel
theorem dX1_given_165 : decode cX1_given 165 = .ok (.aload_n 0, 1) := by decide +kernel
theorem dX1_given_166 : decode cX1_given 166 = .ok (.aload_n 1, 1) := by decide +kernel
theorem dX1_given_167 : decode cX1_given 167 = .ok (.iload_n 2, 1) := by decide +kernel
theorem dX1_given_168 : decode cX1_given 168 = .ok (.bipush 20, 2) := by decide +kernel
theorem dX1_given_170 : decode cX1_given 170 = .ok (.iload 5, 2) := by decide +kernel
theorem dX1_given_172 : decode cX1_given 172 = .ok (.invokevirtual 38, 3) := by decide +kernel
theorem dX1_given_175 : decode cX1_given 175 = .ok (.aload_n 1, 1) := by decide +kernel
theorem dX1_given_176 : decode cX1_given 176 = .ok (.iload_n 2, 1) := by decide +kernel
theorem dX1_given_177 : decode cX1_given 177 = .ok (.iconst 0, 1) := by decide +kernel
theorem dX1_given_178 : decode cX1_given 178 = .ok (.invokevirtual 48, 3) := by decide +kernel
theorem dX1_given_181 : decode cX1_given 181 = .ok (.iadd, 1) := by decide +kernel
theorem dX1_given_182 : decode cX1_given 182 = .ok (.ireturn, 1) := by decide +kernel
theorem dX1_given_183 : decode cX1_given 183 = .ok (.aload_n 0, 1) := by decide +kernel
theorem dX1_given_184 : decode cX1_given 184 = .ok (.aload_n 1, 1) := by decide +kernel
theorem dX1_given_185 : decode cX1_given 185 = .ok (.iload_n 2, 1) := by decide +kernel
theorem dX1_given_186 : decode cX1_given 186 = .ok (.bipush 21, 2) := by decide +kernel
theorem dX1_given_188 : decode cX1_given 188 = .ok (.iload 5, 2) := by decide +kernel
theorem dX1_given_190 : decode cX1_given 190 = .ok (.invokevirtual 38, 3) := by decide +kernel
theorem dX1_given_193 : decode cX1_given 193 = .ok (.sipush 1000, 3) := by decide +kernel
theorem dX1_given_196 : decode cX1_given 196 = .ok (.isub, 1) := by decide +kernel
theorem dX1_given_197 : decode cX1_given 197 = .ok (.ireturn, 1) := by decide +kernel
theorem dX1_given_198 : decode cX1_given 198 = .ok (.aload_n 0, 1) := by decide +kernel
theorem dX1_given_199 : decode cX1_given 199 = .ok (.aload_n 1, 1) := by decide +kernel
theorem dX1_given_200 : decode cX1_given 200 = .ok (.iload_n 2, 1) := by decide +kernel
theorem dX1_given_201 : decode cX1_given 201 = .ok (.bipush 20, 2) := by decide +kernel
theorem dX1_given_203 : decode cX1_given 203 = .ok (.iload 5, 2) := by decide +kernel
theorem dX1_given_205 : decode cX1_given 205 = .ok (.invokevirtual 38, 3) := by decide +kernel
theorem dX1_given_208 : decode cX1_given 208 = .ok (.aload_n 0, 1) := by decide +kernel
theorem dX1_given_209 : decode cX1_given 209 = .ok (.aload_n 1, 1) := by decide +kernel
theorem dX1_given_210 : decode cX1_given 210 = .ok (.iload_n 2, 1) := by decide +kernel
theorem dX1_given_211 : decode cX1_given 211 = .ok (.iconst 0, 1) := by decide +kernel
theorem dX1_given_212 : decode cX1_given 212 = .ok (.iload 5, 2) := by decide +kernel
theorem dX1_given_214 : decode cX1_given 214 = .ok (.invokevirtual 23, 3) := by decide +kernel
theorem dX1_given_217 : decode cX1_given 217 = .ok (.isub, 1) := by decide +kernel
theorem dX1_given_218 : decode cX1_given 218 = .ok (.ireturn, 1) := by decide +kernel
theorem dX1_given_219 : decode cX1_given 219 = .ok (.aload_n 0, 1) := by decide +kernel
theorem dX1_given_220 : decode cX1_given 220 = .ok (.aload_n 1, 1) := by decide +kernel
theorem dX1_given_221 : decode cX1_given 221 = .ok (.iload_n 2, 1) := by decide +kernel
theorem dX1_given_222 : decode cX1_given 222 = .ok (.bipush 21, 2) := by decide +kernel
theorem dX1_given_224 : decode cX1_given 224 = .ok (.iload 5, 2) := by decide +kernel
theorem dX1_given_226 : decode cX1_given 226 = .ok (.invokevirtual 38, 3) := by decide +kernel
theorem dX1_given_229 : decode cX1_given 229 = .ok (.iconst 2, 1) := by decide +kernel
theorem dX1_given_230 : decode cX1_given 230 = .ok (.imul, 1) := by decide +kernel
theorem dX1_given_231 : decode cX1_given 231 = .ok (.ireturn, 1) := by decide +kernel
theorem dX1_given_232 : decode cX1_given 232 = .ok (.iconst 0, 1) := by decide +kernel
theorem dX1_given_233 : decode cX1_given 233 = .ok (.ireturn, 1) := by decide +kernel
theorem dX1_leave_0 : decode cX1_leave 0 = .ok (.aload_n 0, 1) := by decide +kernel
theorem dX1_leave_1 : decode cX1_leave 1 = .ok (.getfield 18, 3) := by decide +kernel
theorem dX1_leave_4 : decode cX1_leave 4 = .ok (.bipush 16, 2) := by decide +kernel
theorem dX1_leave_6 : decode cX1_leave 6 = .ok (.if_icmp .ge 23, 3) := by decide +kernel
theorem dX1_leave_9 : decode cX1_leave 9 = .ok (.aload_n 0, 1) := by decide +kernel
theorem dX1_leave_10 : decode cX1_leave 10 = .ok (.getfield 11, 3) := by decide +kernel
theorem dX1_leave_13 : decode cX1_leave 13 = .ok (.aload_n 0, 1) := by decide +kernel
theorem dX1_leave_14 : decode cX1_leave 14 = .ok (.getfield 18, 3) := by decide +kernel
theorem dX1_leave_17 : decode cX1_leave 17 = .ok (.iload_n 1, 1) := by decide +kernel
theorem dX1_leave_18 : decode cX1_leave 18 = .ok (.iastore, 1) := by decide +kernel
theorem dX1_leave_19 : decode cX1_leave 19 = .ok (.aload_n 0, 1) := by decide +kernel
theorem dX1_leave_20 : decode cX1_leave 20 = .ok (.dup, 1) := by decide +kernel
theorem dX1_leave_21 : decode cX1_leave 21 = .ok (.getfield 18, 3) := by decide +kernel
theorem dX1_leave_24 : decode cX1_leave 24 = .ok (.iconst 1, 1) := by decide +kernel
theorem dX1_leave_25 : decode cX1_leave 25 = .ok (.iadd, 1) := by decide +kernel
theorem dX1_leave_26 : decode cX1_leave 26 = .ok (.putfield 18, 3) := by decide +kernel
theorem dX1_leave_29 : decode cX1_leave 29 = .ok (.return_, 1) := by decide +kernel
theorem dX2_init_0 : decode cX2_init 0 = .ok (.aload_n 0, 1) := by decide +kernel
theorem dX2_init_1 : decode cX2_init 1 = .ok (.invokespecial 3, 3) := by decide +kernel
theorem dX2_init_4 : decode cX2_init 4 = .ok (.aload_n 0, 1) := by decide +kernel
theorem dX2_init_5 : decode cX2_init 5 = .ok (.bipush 6, 2) := by decide +kernel
theorem dX2_init_7 : decode cX2_init 7 = .ok (.sipush 199, 3) := by decide +kernel
theorem dX2_init_10 : decode cX2_init 10 = .ok (.multianewarray 11 2, 4) := by decide +kernel
theorem dX2_init_14 : decode cX2_init 14 = .ok (.putfield 13, 3) := by decide +kernel
theorem dX2_init_17 : decode cX2_init 17 = .ok (.aload_n 0, 1) := by decide +kernel
theorem dX2_init_18 : decode cX2_init 18 = .ok (.sipush 198, 3) := by decide +kernel
theorem dX2_init_21 : decode cX2_init 21 = .ok (.newarray .int, 2) := by decide +kernel
theorem dX2_init_23 : decode cX2_init 23 = .ok (.putfield 16, 3) := by decide +kernel
theorem dX2_init_26 : decode cX2_init 26 = .ok (.aload_n 0, 1) := by decide +kernel
theorem dX2_init_27 : decode cX2_init 27 = .ok (.sipush 198, 3) := by decide +kernel
theorem dX2_init_30 : decode cX2_init 30 = .ok (.newarray .int, 2) := by decide +kernel
theorem dX2_init_32 : decode cX2_init 32 = .ok (.putfield 20, 3) := by decide +kernel
theorem dX2_init_35 : decode cX2_init 35 = .ok (.aload_n 0, 1) := by decide +kernel
theorem dX2_init_36 : decode cX2_init 36 = .ok (.iconst 4, 1) := by decide +kernel
theorem dX2_init_37 : decode cX2_init 37 = .ok (.newarray .int, 2) := by decide +kernel
theorem dX2_init_39 : decode cX2_init 39 = .ok (.putfield 23, 3) := by decide +kernel
theorem dX2_init_42 : decode cX2_init 42 = .ok (.return_, 1) := by decide +kernel
theorem dX2_foresee_0 : decode cX2_foresee 0 = .ok (.aload_n 0, 1) := by decide +kernel
theorem dX2_foresee_1 : decode cX2_foresee 1 = .ok (.aload_n 1, 1) := by decide +kernel
theorem dX2_foresee_2 : decode cX2_foresee 2 = .ok (.getfield 26, 3) := by decide +kernel
theorem dX2_foresee_5 : decode cX2_foresee 5 = .ok (.putfield 32, 3) := by decide +kernel
theorem dX2_foresee_8 : decode cX2_foresee 8 = .ok (.aload_n 0, 1) := by decide +kernel
theorem dX2_foresee_9 : decode cX2_foresee 9 = .ok (.iload_n 2, 1) := by decide +kernel
theorem dX2_foresee_10 : decode cX2_foresee 10 = .ok (.iconst 0, 1) := by decide +kernel
theorem dX2_foresee_11 : decode cX2_foresee 11 = .ok (.invokestatic 35, 3) := by decide +kernel
theorem dX2_foresee_14 : decode cX2_foresee 14 = .ok (.sipush 198, 3) := by decide +kernel
theorem dX2_foresee_17 : decode cX2_foresee 17 = .ok (.invokestatic 41, 3) := by decide +kernel
theorem dX2_foresee_20 : decode cX2_foresee 20 = .ok (.putfield 44, 3) := by decide +kernel
theorem dX2_foresee_23 : decode cX2_foresee 23 = .ok (.iconst 0, 1) := by decide +kernel
theorem dX2_foresee_24 : decode cX2_foresee 24 = .ok (.istore_n 3, 1) := by decide +kernel
theorem dX2_foresee_25 : decode cX2_foresee 25 = .ok (.iload_n 3, 1) := by decide +kernel
theorem dX2_foresee_26 : decode cX2_foresee 26 = .ok (.aload_n 0, 1) := by decide +kernel
theorem dX2_foresee_27 : decode cX2_foresee 27 = .ok (.getfield 44, 3) := by decide +kernel
theorem dX2_foresee_30 : decode cX2_foresee 30 = .ok (.if_icmp .ge 23, 3) := by decide +kernel
theorem dX2_foresee_33 : decode cX2_foresee 33 = .ok (.aload_n 0, 1) := by decide +kernel
theorem dX2_foresee_34 : decode cX2_foresee 34 = .ok (.getfield 16, 3) := by decide +kernel
theorem dX2_foresee_37 : decode cX2_foresee 37 = .ok (.iload_n 3, 1) := by decide +kernel
theorem dX2_foresee_38 : decode cX2_foresee 38 = .ok (.iconst 0, 1) := by decide +kernel
theorem dX2_foresee_39 : decode cX2_foresee 39 = .ok (.iastore, 1) := by decide +kernel
theorem dX2_foresee_40 : decode cX2_foresee 40 = .ok (.aload_n 0, 1) := by decide +kernel
theorem dX2_foresee_41 : decode cX2_foresee 41 = .ok (.getfield 20, 3) := by decide +kernel
theorem dX2_foresee_44 : decode cX2_foresee 44 = .ok (.iload_n 3, 1) := by decide +kernel
theorem dX2_foresee_45 : decode cX2_foresee 45 = .ok (.iconst 0, 1) := by decide +kernel
theorem dX2_foresee_46 : decode cX2_foresee 46 = .ok (.iastore, 1) := by decide +kernel
theorem dX2_foresee_47 : decode cX2_foresee 47 = .ok (.iinc 3 1, 3) := by decide +kernel
theorem dX2_foresee_50 : decode cX2_foresee 50 = .ok (.goto (-25), 3) := by decide +kernel
theorem dX2_foresee_53 : decode cX2_foresee 53 = .ok (.iconst 0, 1) := by decide +kernel
theorem dX2_foresee_54 : decode cX2_foresee 54 = .ok (.istore_n 3, 1) := by decide +kernel
theorem dX2_foresee_55 : decode cX2_foresee 55 = .ok (.iload_n 3, 1) := by decide +kernel
theorem dX2_foresee_56 : decode cX2_foresee 56 = .ok (.aload_n 1, 1) := by decide +kernel
theorem dX2_foresee_57 : decode cX2_foresee 57 = .ok (.getfield 47, 3) := by decide +kernel
theorem dX2_foresee_60 : decode cX2_foresee 60 = .ok (.if_icmp .ge 15, 3) := by decide +kernel
theorem dX2_foresee_63 : decode cX2_foresee 63 = .ok (.aload_n 0, 1) := by decide +kernel
theorem dX2_foresee_64 : decode cX2_foresee 64 = .ok (.aload_n 1, 1) := by decide +kernel
theorem dX2_foresee_65 : decode cX2_foresee 65 = .ok (.iload_n 3, 1) := by decide +kernel
theorem dX2_foresee_66 : decode cX2_foresee 66 = .ok (.invokevirtual 50, 3) := by decide +kernel
theorem dX2_foresee_69 : decode cX2_foresee 69 = .ok (.iinc 3 1, 3) := by decide +kernel
theorem dX2_foresee_72 : decode cX2_foresee 72 = .ok (.goto (-17), 3) := by decide +kernel
theorem dX2_foresee_75 : decode cX2_foresee 75 = .ok (.return_, 1) := by decide +kernel
theorem dX2_foreseeOne_0 : decode cX2_foreseeOne 0 = .ok (.aload_n 0, 1) := by decide +kernel
theorem dX2_foreseeOne_1 : decode cX2_foreseeOne 1 = .ok (.getfield 13, 3) := by decide +kernel
theorem dX2_foreseeOne_4 : decode cX2_foreseeOne 4 = .ok (.iload_n 2, 1) := by decide +kernel
theorem dX2_foreseeOne_5 : decode cX2_foreseeOne 5 = .ok (.aaload, 1) := by decide +kernel
theorem dX2_foreseeOne_6 : decode cX2_foreseeOne 6 = .ok (.iconst 0, 1) := by decide +kernel
theorem dX2_foreseeOne_7 : decode cX2_foreseeOne 7 = .ok (.aload_n 1, 1) := by decide +kernel
theorem dX2_foreseeOne_8 : decode cX2_foreseeOne 8 = .ok (.iload_n 2, 1) := by decide +kernel
theorem dX2_foreseeOne_9 : decode cX2_foreseeOne 9 = .ok (.aload_n 0, 1) := by decide +kernel
theorem dX2_foreseeOne_10 : decode cX2_foreseeOne 10 = .ok (.getfield 32, 3) := by decide +kernel
theorem dX2_foreseeOne_13 : decode cX2_foreseeOne 13 = .ok (.invokevirtual 54, 3) := by decide +kernel
theorem dX2_foreseeOne_16 : decode cX2_foreseeOne 16 = .ok (.iastore, 1) := by decide +kernel
theorem dX2_foreseeOne_17 : decode cX2_foreseeOne 17 = .ok (.iconst 0, 1) := by decide +kernel
theorem dX2_foreseeOne_18 : decode cX2_foreseeOne 18 = .ok (.istore_n 3, 1) := by decide +kernel
theorem dX2_foreseeOne_19 : decode cX2_foreseeOne 19 = .ok (.iload_n 3, 1) := by decide +kernel
theorem dX2_foreseeOne_20 : decode cX2_foreseeOne 20 = .ok (.aload_n 0, 1) := by decide +kernel
theorem dX2_foreseeOne_21 : decode cX2_foreseeOne 21 = .ok (.getfield 44, 3) := by decide +kernel
theorem dX2_foreseeOne_24 : decode cX2_foreseeOne 24 = .ok (.if_icmp .ge 94, 3) := by decide +kernel
theorem dX2_foreseeOne_27 : decode cX2_foreseeOne 27 = .ok (.aload_n 1, 1) := by decide +kernel
theorem dX2_foreseeOne_28 : decode cX2_foreseeOne 28 = .ok (.iload_n 2, 1) := by decide +kernel
theorem dX2_foreseeOne_29 : decode cX2_foreseeOne 29 = .ok (.aload_n 0, 1) := by decide +kernel
theorem dX2_foreseeOne_30 : decode cX2_foreseeOne 30 = .ok (.getfield 32, 3) := by decide +kernel
theorem dX2_foreseeOne_33 : decode cX2_foreseeOne 33 = .ok (.iload_n 3, 1) := by decide +kernel
theorem dX2_foreseeOne_34 : decode cX2_foreseeOne 34 = .ok (.iadd, 1) := by decide +kernel
theorem dX2_foreseeOne_35 : decode cX2_foreseeOne 35 = .ok (.iconst 1, 1) := by decide +kernel
theorem dX2_foreseeOne_36 : decode cX2_foreseeOne 36 = .ok (.iadd, 1) := by decide +kernel
theorem dX2_foreseeOne_37 : decode cX2_foreseeOne 37 = .ok (.invokevirtual 54, 3) := by decide +kernel
theorem dX2_foreseeOne_40 : decode cX2_foreseeOne 40 = .ok (.istore 4, 2) := by decide +kernel
theorem dX2_foreseeOne_42 : decode cX2_foreseeOne 42 = .ok (.aload_n 0, 1) := by decide +kernel
theorem dX2_foreseeOne_43 : decode cX2_foreseeOne 43 = .ok (.getfield 13, 3) := by decide +kernel
theorem dX2_foreseeOne_46 : decode cX2_foreseeOne 46 = .ok (.iload_n 2, 1) := by decide +kernel
theorem dX2_foreseeOne_47 : decode cX2_foreseeOne 47 = .ok (.aaload, 1) := by decide +kernel
theorem dX2_foreseeOne_48 : decode cX2_foreseeOne 48 = .ok (.iload_n 3, 1) := by decide +kernel
theorem dX2_foreseeOne_49 : decode cX2_foreseeOne 49 = .ok (.iconst 1, 1) := by decide +kernel
theorem dX2_foreseeOne_50 : decode cX2_foreseeOne 50 = .ok (.iadd, 1) := by decide +kernel
theorem dX2_foreseeOne_51 : decode cX2_foreseeOne 51 = .ok (.iload 4, 2) := by decide +kernel
theorem dX2_foreseeOne_53 : decode cX2_foreseeOne 53 = .ok (.iastore, 1) := by decide +kernel
theorem dX2_foreseeOne_54 : decode cX2_foreseeOne 54 = .ok (.aload_n 0, 1) := by decide +kernel
theorem dX2_foreseeOne_55 : decode cX2_foreseeOne 55 = .ok (.getfield 16, 3) := by decide +kernel
theorem dX2_foreseeOne_58 : decode cX2_foreseeOne 58 = .ok (.iload_n 3, 1) := by decide +kernel
theorem dX2_foreseeOne_59 : decode cX2_foreseeOne 59 = .ok (.dup2, 1) := by decide +kernel
theorem dX2_foreseeOne_60 : decode cX2_foreseeOne 60 = .ok (.iaload, 1) := by decide +kernel
theorem dX2_foreseeOne_61 : decode cX2_foreseeOne 61 = .ok (.iload 4, 2) := by decide +kernel
theorem dX2_foreseeOne_63 : decode cX2_foreseeOne 63 = .ok (.aload_n 0, 1) := by decide +kernel
theorem dX2_foreseeOne_64 : decode cX2_foreseeOne 64 = .ok (.getfield 13, 3) := by decide +kernel
theorem dX2_foreseeOne_67 : decode cX2_foreseeOne 67 = .ok (.iload_n 2, 1) := by decide +kernel
theorem dX2_foreseeOne_68 : decode cX2_foreseeOne 68 = .ok (.aaload, 1) := by decide +kernel
theorem dX2_foreseeOne_69 : decode cX2_foreseeOne 69 = .ok (.iload_n 3, 1) := by decide +kernel
theorem dX2_foreseeOne_70 : decode cX2_foreseeOne 70 = .ok (.iaload, 1) := by decide +kernel
theorem dX2_foreseeOne_71 : decode cX2_foreseeOne 71 = .ok (.if_icmp .le 9, 3) := by decide +kernel
theorem dX2_foreseeOne_74 : decode cX2_foreseeOne 74 = .ok (.iconst 1, 1) := by decide +kernel
theorem dX2_foreseeOne_75 : decode cX2_foreseeOne 75 = .ok (.iload_n 2, 1) := by decide +kernel
theorem dX2_foreseeOne_76 : decode cX2_foreseeOne 76 = .ok (.ishl, 1) := by decide +kernel
theorem dX2_foreseeOne_77 : decode cX2_foreseeOne 77 = .ok (.goto 4, 3) := by decide +kernel
theorem dX2_foreseeOne_80 : decode cX2_foreseeOne 80 = .ok (.iconst 0, 1) := by decide +kernel
theorem dX2_foreseeOne_81 : decode cX2_foreseeOne 81 = .ok (.ior, 1) := by decide +kernel
theorem dX2_foreseeOne_82 : decode cX2_foreseeOne 82 = .ok (.iastore, 1) := by decide +kernel
theorem dX2_foreseeOne_83 : decode cX2_foreseeOne 83 = .ok (.aload_n 0, 1) := by decide +kernel
theorem dX2_foreseeOne_84 : decode cX2_foreseeOne 84 = .ok (.getfield 20, 3) := by decide +kernel
theorem dX2_foreseeOne_87 : decode cX2_foreseeOne 87 = .ok (.iload_n 3, 1) := by decide +kernel
theorem dX2_foreseeOne_88 : decode cX2_foreseeOne 88 = .ok (.dup2, 1) := by decide +kernel
theorem dX2_foreseeOne_89 : decode cX2_foreseeOne 89 = .ok (.iaload, 1) := by decide +kernel
theorem dX2_foreseeOne_90 : decode cX2_foreseeOne 90 = .ok (.iload 4, 2) := by decide +kernel
theorem dX2_foreseeOne_92 : decode cX2_foreseeOne 92 = .ok (.aload_n 0, 1) := by decide +kernel
theorem dX2_foreseeOne_93 : decode cX2_foreseeOne 93 = .ok (.getfield 13, 3) := by decide +kernel
theorem dX2_foreseeOne_96 : decode cX2_foreseeOne 96 = .ok (.iload_n 2, 1) := by decide +kernel
theorem dX2_foreseeOne_97 : decode cX2_foreseeOne 97 = .ok (.aaload, 1) := by decide +kernel
theorem dX2_foreseeOne_98 : decode cX2_foreseeOne 98 = .ok (.iload_n 3, 1) := by decide +kernel
theorem dX2_foreseeOne_99 : decode cX2_foreseeOne 99 = .ok (.iaload, 1) := by decide +kernel
theorem dX2_foreseeOne_100 : decode cX2_foreseeOne 100 = .ok (.if_icmp .ge 9, 3) := by decide +kernel
theorem dX2_foreseeOne_103 : decode cX2_foreseeOne 103 = .ok (.iconst 1, 1) := by decide +kernel
theorem dX2_foreseeOne_104 : decode cX2_foreseeOne 104 = .ok (.iload_n 2, 1) := by decide +kernel
theorem dX2_foreseeOne_105 : decode cX2_foreseeOne 105 = .ok (.ishl, 1) := by decide +kernel
theorem dX2_foreseeOne_106 : decode cX2_foreseeOne 106 = .ok (.goto 4, 3) := by decide +kernel
theorem dX2_foreseeOne_109 : decode cX2_foreseeOne 109 = .ok (.iconst 0, 1) := by decide +kernel
theorem dX2_foreseeOne_110 : decode cX2_foreseeOne 110 = .ok (.ior, 1) := by decide +kernel
theorem dX2_foreseeOne_111 : decode cX2_foreseeOne 111 = .ok (.iastore, 1) := by decide +kernel
theorem dX2_foreseeOne_112 : decode cX2_foreseeOne 112 = .ok (.iinc 3 1, 3) := by decide +kernel
theorem dX2_foreseeOne_115 : decode cX2_foreseeOne 115 = .ok (.goto (-96), 3) := by decide +kernel
theorem dX2_foreseeOne_118 : decode cX2_foreseeOne 118 = .ok (.return_, 1) := by decide +kernel
theorem dX2_pass_0 : decode cX2_pass 0 = .ok (.aload_n 1, 1) := by decide +kernel
theorem dX2_pass_1 : decode cX2_pass 1 = .ok (.getfield 26, 3) := by decide +kernel
theorem dX2_pass_4 : decode cX2_pass 4 = .ok (.aload_n 0, 1) := by decide +kernel
theorem dX2_pass_5 : decode cX2_pass 5 = .ok (.getfield 32, 3) := by decide +kernel
theorem dX2_pass_8 : decode cX2_pass 8 = .ok (.isub, 1) := by decide +kernel
theorem dX2_pass_9 : decode cX2_pass 9 = .ok (.istore_n 2, 1) := by decide +kernel
theorem dX2_pass_10 : decode cX2_pass 10 = .ok (.iload_n 2, 1) := by decide +kernel
theorem dX2_pass_11 : decode cX2_pass 11 = .ok (.ifCond .lt 11, 3) := by decide +kernel
theorem dX2_pass_14 : decode cX2_pass 14 = .ok (.iload_n 2, 1) := by decide +kernel
theorem dX2_pass_15 : decode cX2_pass 15 = .ok (.aload_n 0, 1) := by decide +kernel
theorem dX2_pass_16 : decode cX2_pass 16 = .ok (.getfield 44, 3) := by decide +kernel
theorem dX2_pass_19 : decode cX2_pass 19 = .ok (.if_icmp .lt 4, 3) := by decide +kernel
theorem dX2_pass_22 : decode cX2_pass 22 = .ok (.return_, 1) := by decide +kernel
theorem dX2_pass_23 : decode cX2_pass 23 = .ok (.aload_n 0, 1) := by decide +kernel
theorem dX2_pass_24 : decode cX2_pass 24 = .ok (.iconst 0, 1) := by decide +kernel
theorem dX2_pass_25 : decode cX2_pass 25 = .ok (.putfield 57, 3) := by decide +kernel
theorem dX2_pass_28 : decode cX2_pass 28 = .ok (.aload_n 0, 1) := by decide +kernel
theorem dX2_pass_29 : decode cX2_pass 29 = .ok (.iconst 0, 1) := by decide +kernel
theorem dX2_pass_30 : decode cX2_pass 30 = .ok (.putfield 60, 3) := by decide +kernel
theorem dX2_pass_33 : decode cX2_pass 33 = .ok (.iconst 0, 1) := by decide +kernel
theorem dX2_pass_34 : decode cX2_pass 34 = .ok (.istore_n 3, 1) := by decide +kernel
theorem dX2_pass_35 : decode cX2_pass 35 = .ok (.iload_n 3, 1) := by decide +kernel
theorem dX2_pass_36 : decode cX2_pass 36 = .ok (.iconst 4, 1) := by decide +kernel
theorem dX2_pass_37 : decode cX2_pass 37 = .ok (.if_icmp .ge 40, 3) := by decide +kernel
theorem dX2_pass_40 : decode cX2_pass 40 = .ok (.aload_n 0, 1) := by decide +kernel
theorem dX2_pass_41 : decode cX2_pass 41 = .ok (.getfield 23, 3) := by decide +kernel
theorem dX2_pass_44 : decode cX2_pass 44 = .ok (.iload_n 3, 1) := by decide +kernel
theorem dX2_pass_45 : decode cX2_pass 45 = .ok (.aload_n 0, 1) := by decide +kernel
theorem dX2_pass_46 : decode cX2_pass 46 = .ok (.aload_n 1, 1) := by decide +kernel
theorem dX2_pass_47 : decode cX2_pass 47 = .ok (.iload_n 3, 1) := by decide +kernel
theorem dX2_pass_48 : decode cX2_pass 48 = .ok (.iload_n 2, 1) := by decide +kernel
theorem dX2_pass_49 : decode cX2_pass 49 = .ok (.invokevirtual 63, 3) := by decide +kernel
theorem dX2_pass_52 : decode cX2_pass 52 = .ok (.iastore, 1) := by decide +kernel
theorem dX2_pass_53 : decode cX2_pass 53 = .ok (.aload_n 0, 1) := by decide +kernel
theorem dX2_pass_54 : decode cX2_pass 54 = .ok (.getfield 23, 3) := by decide +kernel
theorem dX2_pass_57 : decode cX2_pass 57 = .ok (.iload_n 3, 1) := by decide +kernel
theorem dX2_pass_58 : decode cX2_pass 58 = .ok (.iaload, 1) := by decide +kernel
theorem dX2_pass_59 : decode cX2_pass 59 = .ok (.ldc 67, 2) := by decide +kernel
theorem dX2_pass_61 : decode cX2_pass 61 = .ok (.if_icmp .eq 10, 3) := by decide +kernel
theorem dX2_pass_64 : decode cX2_pass 64 = .ok (.aload_n 0, 1) := by decide +kernel
theorem dX2_pass_65 : decode cX2_pass 65 = .ok (.aload_n 1, 1) := by decide +kernel
theorem dX2_pass_66 : decode cX2_pass 66 = .ok (.iload_n 3, 1) := by decide +kernel
theorem dX2_pass_67 : decode cX2_pass 67 = .ok (.iload_n 2, 1) := by decide +kernel
theorem dX2_pass_68 : decode cX2_pass 68 = .ok (.invokevirtual 68, 3) := by decide +kernel
theorem dX2_pass_71 : decode cX2_pass 71 = .ok (.iinc 3 1, 3) := by decide +kernel
theorem dX2_pass_74 : decode cX2_pass 74 = .ok (.goto (-39), 3) := by decide +kernel
theorem dX2_pass_77 : decode cX2_pass 77 = .ok (.aload_n 1, 1) := by decide +kernel
theorem dX2_pass_78 : decode cX2_pass 78 = .ok (.dup, 1) := by decide +kernel
theorem dX2_pass_79 : decode cX2_pass 79 = .ok (.getfield 26, 3) := by decide +kernel
theorem dX2_pass_82 : decode cX2_pass 82 = .ok (.iconst 1, 1) := by decide +kernel
theorem dX2_pass_83 : decode cX2_pass 83 = .ok (.iadd, 1) := by decide +kernel
theorem dX2_pass_84 : decode cX2_pass 84 = .ok (.putfield 26, 3) := by decide +kernel
theorem dX2_pass_87 : decode cX2_pass 87 = .ok (.return_, 1) := by decide +kernel
theorem dX2_carrierOf_0 : decode cX2_carrierOf 0 = .ok (.aload_n 1, 1) := by decide +kernel
theorem dX2_carrierOf_1 : decode cX2_carrierOf 1 = .ok (.iload_n 2, 1) := by decide +kernel
theorem dX2_carrierOf_2 : decode cX2_carrierOf 2 = .ok (.invokevirtual 72, 3) := by decide +kernel
theorem dX2_carrierOf_5 : decode cX2_carrierOf 5 = .ok (.ifCond .ne 6, 3) := by decide +kernel
theorem dX2_carrierOf_8 : decode cX2_carrierOf 8 = .ok (.ldc 67, 2) := by decide +kernel
theorem dX2_carrierOf_10 : decode cX2_carrierOf 10 = .ok (.ireturn, 1) := by decide +kernel
theorem dX2_carrierOf_11 : decode cX2_carrierOf 11 = .ok (.aload_n 1, 1) := by decide +kernel
theorem dX2_carrierOf_12 : decode cX2_carrierOf 12 = .ok (.getfield 76, 3) := by decide +kernel
theorem dX2_carrierOf_15 : decode cX2_carrierOf 15 = .ok (.iload_n 2, 1) := by decide +kernel
theorem dX2_carrierOf_16 : decode cX2_carrierOf 16 = .ok (.iaload, 1) := by decide +kernel
theorem dX2_carrierOf_17 : decode cX2_carrierOf 17 = .ok (.aload_n 1, 1) := by decide +kernel
theorem dX2_carrierOf_18 : decode cX2_carrierOf 18 = .ok (.getfield 79, 3) := by decide +kernel
theorem dX2_carrierOf_21 : decode cX2_carrierOf 21 = .ok (.iload_n 2, 1) := by decide +kernel
theorem dX2_carrierOf_22 : decode cX2_carrierOf 22 = .ok (.iaload, 1) := by decide +kernel
theorem dX2_carrierOf_23 : decode cX2_carrierOf 23 = .ok (.if_icmp .le 12, 3) := by decide +kernel
theorem dX2_carrierOf_26 : decode cX2_carrierOf 26 = .ok (.aload_n 0, 1) := by decide +kernel
theorem dX2_carrierOf_27 : decode cX2_carrierOf 27 = .ok (.getfield 16, 3) := by decide +kernel
theorem dX2_carrierOf_30 : decode cX2_carrierOf 30 = .ok (.iload_n 3, 1) := by decide +kernel
theorem dX2_carrierOf_31 : decode cX2_carrierOf 31 = .ok (.iaload, 1) := by decide +kernel
theorem dX2_carrierOf_32 : decode cX2_carrierOf 32 = .ok (.goto 9, 3) := by decide +kernel
theorem dX2_carrierOf_35 : decode cX2_carrierOf 35 = .ok (.aload_n 0, 1) := by decide +kernel
theorem dX2_carrierOf_36 : decode cX2_carrierOf 36 = .ok (.getfield 20, 3) := by decide +kernel
theorem dX2_carrierOf_39 : decode cX2_carrierOf 39 = .ok (.iload_n 3, 1) := by decide +kernel
theorem dX2_carrierOf_40 : decode cX2_carrierOf 40 = .ok (.iaload, 1) := by decide +kernel
theorem dX2_carrierOf_41 : decode cX2_carrierOf 41 = .ok (.istore 4, 2) := by decide +kernel
theorem dX2_carrierOf_43 : decode cX2_carrierOf 43 = .ok (.iload 4, 2) := by decide +kernel
theorem dX2_carrierOf_45 : decode cX2_carrierOf 45 = .ok (.aload_n 1, 1) := by decide +kernel
theorem dX2_carrierOf_46 : decode cX2_carrierOf 46 = .ok (.getfield 82, 3) := by decide +kernel
theorem dX2_carrierOf_49 : decode cX2_carrierOf 49 = .ok (.iconst (-1), 1) := by decide +kernel
theorem dX2_carrierOf_50 : decode cX2_carrierOf 50 = .ok (.ixor, 1) := by decide +kernel
theorem dX2_carrierOf_51 : decode cX2_carrierOf 51 = .ok (.iand, 1) := by decide +kernel
theorem dX2_carrierOf_52 : decode cX2_carrierOf 52 = .ok (.aload_n 0, 1) := by decide +kernel
theorem dX2_carrierOf_53 : decode cX2_carrierOf 53 = .ok (.getfield 57, 3) := by decide +kernel
theorem dX2_carrierOf_56 : decode cX2_carrierOf 56 = .ok (.iconst (-1), 1) := by decide +kernel
theorem dX2_carrierOf_57 : decode cX2_carrierOf 57 = .ok (.ixor, 1) := by decide +kernel
theorem dX2_carrierOf_58 : decode cX2_carrierOf 58 = .ok (.iand, 1) := by decide +kernel
theorem dX2_carrierOf_59 : decode cX2_carrierOf 59 = .ok (.istore 5, 2) := by decide +kernel
theorem dX2_carrierOf_61 : decode cX2_carrierOf 61 = .ok (.iload 5, 2) := by decide +kernel
theorem dX2_carrierOf_63 : decode cX2_carrierOf 63 = .ok (.ifCond .ne 6, 3) := by decide +kernel
theorem dX2_carrierOf_66 : decode cX2_carrierOf 66 = .ok (.ldc 67, 2) := by decide +kernel
theorem dX2_carrierOf_68 : decode cX2_carrierOf 68 = .ok (.ireturn, 1) := by decide +kernel
theorem dX2_carrierOf_69 : decode cX2_carrierOf 69 = .ok (.iconst 0, 1) := by decide +kernel
theorem dX2_carrierOf_70 : decode cX2_carrierOf 70 = .ok (.istore 6, 2) := by decide +kernel
theorem dX2_carrierOf_72 : decode cX2_carrierOf 72 = .ok (.iload 6, 2) := by decide +kernel
theorem dX2_carrierOf_74 : decode cX2_carrierOf 74 = .ok (.aload_n 1, 1) := by decide +kernel
theorem dX2_carrierOf_75 : decode cX2_carrierOf 75 = .ok (.getfield 47, 3) := by decide +kernel
theorem dX2_carrierOf_78 : decode cX2_carrierOf 78 = .ok (.if_icmp .ge 41, 3) := by decide +kernel
theorem dX2_carrierOf_81 : decode cX2_carrierOf 81 = .ok (.iload 5, 2) := by decide +kernel
theorem dX2_carrierOf_83 : decode cX2_carrierOf 83 = .ok (.iload 6, 2) := by decide +kernel
theorem dX2_carrierOf_85 : decode cX2_carrierOf 85 = .ok (.ishr, 1) := by decide +kernel
theorem dX2_carrierOf_86 : decode cX2_carrierOf 86 = .ok (.iconst 1, 1) := by decide +kernel
theorem dX2_carrierOf_87 : decode cX2_carrierOf 87 = .ok (.iand, 1) := by decide +kernel
theorem dX2_carrierOf_88 : decode cX2_carrierOf 88 = .ok (.iconst 1, 1) := by decide +kernel
theorem dX2_carrierOf_89 : decode cX2_carrierOf 89 = .ok (.if_icmp .ne 24, 3) := by decide +kernel
theorem dX2_carrierOf_92 : decode cX2_carrierOf 92 = .ok (.aload_n 0, 1) := by decide +kernel
theorem dX2_carrierOf_93 : decode cX2_carrierOf 93 = .ok (.getfield 13, 3) := by decide +kernel
theorem dX2_carrierOf_96 : decode cX2_carrierOf 96 = .ok (.iload 6, 2) := by decide +kernel
theorem dX2_carrierOf_98 : decode cX2_carrierOf 98 = .ok (.aaload, 1) := by decide +kernel
theorem dX2_carrierOf_99 : decode cX2_carrierOf 99 = .ok (.iload_n 3, 1) := by decide +kernel
theorem dX2_carrierOf_100 : decode cX2_carrierOf 100 = .ok (.iaload, 1) := by decide +kernel
theorem dX2_carrierOf_101 : decode cX2_carrierOf 101 = .ok (.aload_n 1, 1) := by decide +kernel
theorem dX2_carrierOf_102 : decode cX2_carrierOf 102 = .ok (.getfield 79, 3) := by decide +kernel
theorem dX2_carrierOf_105 : decode cX2_carrierOf 105 = .ok (.iload_n 2, 1) := by decide +kernel
theorem dX2_carrierOf_106 : decode cX2_carrierOf 106 = .ok (.iaload, 1) := by decide +kernel
theorem dX2_carrierOf_107 : decode cX2_carrierOf 107 = .ok (.if_icmp .ne 6, 3) := by decide +kernel
theorem dX2_carrierOf_110 : decode cX2_carrierOf 110 = .ok (.iload 6, 2) := by decide +kernel
theorem dX2_carrierOf_112 : decode cX2_carrierOf 112 = .ok (.ireturn, 1) := by decide +kernel
theorem dX2_carrierOf_113 : decode cX2_carrierOf 113 = .ok (.iinc 6 1, 3) := by decide +kernel
theorem dX2_carrierOf_116 : decode cX2_carrierOf 116 = .ok (.goto (-44), 3) := by decide +kernel
theorem dX2_carrierOf_119 : decode cX2_carrierOf 119 = .ok (.ldc 67, 2) := by decide +kernel
theorem dX2_carrierOf_121 : decode cX2_carrierOf 121 = .ok (.ireturn, 1) := by decide +kernel
theorem dX2_carryOn_0 : decode cX2_carryOn 0 = .ok (.aload_n 0, 1) := by decide +kernel
theorem dX2_carryOn_1 : decode cX2_carryOn 1 = .ok (.getfield 23, 3) := by decide +kernel
theorem dX2_carryOn_4 : decode cX2_carryOn 4 = .ok (.iload_n 2, 1) := by decide +kernel
theorem dX2_carryOn_5 : decode cX2_carryOn 5 = .ok (.iaload, 1) := by decide +kernel
theorem dX2_carryOn_6 : decode cX2_carryOn 6 = .ok (.istore 4, 2) := by decide +kernel
theorem dX2_carryOn_8 : decode cX2_carryOn 8 = .ok (.aload_n 0, 1) := by decide +kernel
theorem dX2_carryOn_9 : decode cX2_carryOn 9 = .ok (.getfield 13, 3) := by decide +kernel
theorem dX2_carryOn_12 : decode cX2_carryOn 12 = .ok (.iload 4, 2) := by decide +kernel
theorem dX2_carryOn_14 : decode cX2_carryOn 14 = .ok (.aaload, 1) := by decide +kernel
theorem dX2_carryOn_15 : decode cX2_carryOn 15 = .ok (.iload_n 3, 1) := by decide +kernel
theorem dX2_carryOn_16 : decode cX2_carryOn 16 = .ok (.iconst 1, 1) := by decide +kernel
theorem dX2_carryOn_17 : decode cX2_carryOn 17 = .ok (.iadd, 1) := by decide +kernel
theorem dX2_carryOn_18 : decode cX2_carryOn 18 = .ok (.iaload, 1) := by decide +kernel
theorem dX2_carryOn_19 : decode cX2_carryOn 19 = .ok (.istore 5, 2) := by decide +kernel
theorem dX2_carryOn_21 : decode cX2_carryOn 21 = .ok (.aload_n 1, 1) := by decide +kernel
theorem dX2_carryOn_22 : decode cX2_carryOn 22 = .ok (.getfield 76, 3) := by decide +kernel
theorem dX2_carryOn_25 : decode cX2_carryOn 25 = .ok (.iload_n 2, 1) := by decide +kernel
theorem dX2_carryOn_26 : decode cX2_carryOn 26 = .ok (.iaload, 1) := by decide +kernel
theorem dX2_carryOn_27 : decode cX2_carryOn 27 = .ok (.aload_n 1, 1) := by decide +kernel
theorem dX2_carryOn_28 : decode cX2_carryOn 28 = .ok (.getfield 79, 3) := by decide +kernel
theorem dX2_carryOn_31 : decode cX2_carryOn 31 = .ok (.iload_n 2, 1) := by decide +kernel
theorem dX2_carryOn_32 : decode cX2_carryOn 32 = .ok (.iaload, 1) := by decide +kernel
theorem dX2_carryOn_33 : decode cX2_carryOn 33 = .ok (.if_icmp .le 7, 3) := by decide +kernel
theorem dX2_carryOn_36 : decode cX2_carryOn 36 = .ok (.iconst 1, 1) := by decide +kernel
theorem dX2_carryOn_37 : decode cX2_carryOn 37 = .ok (.goto 4, 3) := by decide +kernel
theorem dX2_carryOn_40 : decode cX2_carryOn 40 = .ok (.iconst 0, 1) := by decide +kernel
theorem dX2_carryOn_41 : decode cX2_carryOn 41 = .ok (.istore 6, 2) := by decide +kernel
theorem dX2_carryOn_43 : decode cX2_carryOn 43 = .ok (.aload_n 1, 1) := by decide +kernel
theorem dX2_carryOn_44 : decode cX2_carryOn 44 = .ok (.getfield 79, 3) := by decide +kernel
theorem dX2_carryOn_47 : decode cX2_carryOn 47 = .ok (.iload_n 2, 1) := by decide +kernel
theorem dX2_carryOn_48 : decode cX2_carryOn 48 = .ok (.iload 6, 2) := by decide +kernel
theorem dX2_carryOn_50 : decode cX2_carryOn 50 = .ok (.ifCond .eq 17, 3) := by decide +kernel
theorem dX2_carryOn_53 : decode cX2_carryOn 53 = .ok (.iload 5, 2) := by decide +kernel
theorem dX2_carryOn_55 : decode cX2_carryOn 55 = .ok (.aload_n 1, 1) := by decide +kernel
theorem dX2_carryOn_56 : decode cX2_carryOn 56 = .ok (.getfield 76, 3) := by decide +kernel
theorem dX2_carryOn_59 : decode cX2_carryOn 59 = .ok (.iload_n 2, 1) := by decide +kernel
theorem dX2_carryOn_60 : decode cX2_carryOn 60 = .ok (.iaload, 1) := by decide +kernel
theorem dX2_carryOn_61 : decode cX2_carryOn 61 = .ok (.invokestatic 41, 3) := by decide +kernel
theorem dX2_carryOn_64 : decode cX2_carryOn 64 = .ok (.goto 14, 3) := by decide +kernel
theorem dX2_carryOn_67 : decode cX2_carryOn 67 = .ok (.iload 5, 2) := by decide +kernel
theorem dX2_carryOn_69 : decode cX2_carryOn 69 = .ok (.aload_n 1, 1) := by decide +kernel
theorem dX2_carryOn_70 : decode cX2_carryOn 70 = .ok (.getfield 76, 3) := by decide +kernel
theorem dX2_carryOn_73 : decode cX2_carryOn 73 = .ok (.iload_n 2, 1) := by decide +kernel
theorem dX2_carryOn_74 : decode cX2_carryOn 74 = .ok (.iaload, 1) := by decide +kernel
theorem dX2_carryOn_75 : decode cX2_carryOn 75 = .ok (.invokestatic 35, 3) := by decide +kernel
theorem dX2_carryOn_78 : decode cX2_carryOn 78 = .ok (.iastore, 1) := by decide +kernel
theorem dX2_carryOn_79 : decode cX2_carryOn 79 = .ok (.aload_n 1, 1) := by decide +kernel
theorem dX2_carryOn_80 : decode cX2_carryOn 80 = .ok (.getfield 85, 3) := by decide +kernel
theorem dX2_carryOn_83 : decode cX2_carryOn 83 = .ok (.iload 4, 2) := by decide +kernel
theorem dX2_carryOn_85 : decode cX2_carryOn 85 = .ok (.iaload, 1) := by decide +kernel
theorem dX2_carryOn_86 : decode cX2_carryOn 86 = .ok (.iconst 2, 1) := by decide +kernel
theorem dX2_carryOn_87 : decode cX2_carryOn 87 = .ok (.if_icmp .ne 31, 3) := by decide +kernel
theorem dX2_carryOn_90 : decode cX2_carryOn 90 = .ok (.aload_n 0, 1) := by decide +kernel
theorem dX2_carryOn_91 : decode cX2_carryOn 91 = .ok (.getfield 60, 3) := by decide +kernel
theorem dX2_carryOn_94 : decode cX2_carryOn 94 = .ok (.iload 4, 2) := by decide +kernel
theorem dX2_carryOn_96 : decode cX2_carryOn 96 = .ok (.ishr, 1) := by decide +kernel
theorem dX2_carryOn_97 : decode cX2_carryOn 97 = .ok (.iconst 1, 1) := by decide +kernel
theorem dX2_carryOn_98 : decode cX2_carryOn 98 = .ok (.iand, 1) := by decide +kernel
theorem dX2_carryOn_99 : decode cX2_carryOn 99 = .ok (.ifCond .ne 19, 3) := by decide +kernel
theorem dX2_carryOn_102 : decode cX2_carryOn 102 = .ok (.aload_n 0, 1) := by decide +kernel
theorem dX2_carryOn_103 : decode cX2_carryOn 103 = .ok (.dup, 1) := by decide +kernel
theorem dX2_carryOn_104 : decode cX2_carryOn 104 = .ok (.getfield 60, 3) := by decide +kernel
theorem dX2_carryOn_107 : decode cX2_carryOn 107 = .ok (.iconst 1, 1) := by decide +kernel
theorem dX2_carryOn_108 : decode cX2_carryOn 108 = .ok (.iload 4, 2) := by decide +kernel
theorem dX2_carryOn_110 : decode cX2_carryOn 110 = .ok (.ishl, 1) := by decide +kernel
theorem dX2_carryOn_111 : decode cX2_carryOn 111 = .ok (.ior, 1) := by decide +kernel
theorem dX2_carryOn_112 : decode cX2_carryOn 112 = .ok (.putfield 60, 3) := by decide +kernel
theorem dX2_carryOn_115 : decode cX2_carryOn 115 = .ok (.goto 16, 3) := by decide +kernel
theorem dX2_carryOn_118 : decode cX2_carryOn 118 = .ok (.aload_n 0, 1) := by decide +kernel
theorem dX2_carryOn_119 : decode cX2_carryOn 119 = .ok (.dup, 1) := by decide +kernel
theorem dX2_carryOn_120 : decode cX2_carryOn 120 = .ok (.getfield 57, 3) := by decide +kernel
theorem dX2_carryOn_123 : decode cX2_carryOn 123 = .ok (.iconst 1, 1) := by decide +kernel
theorem dX2_carryOn_124 : decode cX2_carryOn 124 = .ok (.iload 4, 2) := by decide +kernel
theorem dX2_carryOn_126 : decode cX2_carryOn 126 = .ok (.ishl, 1) := by decide +kernel
theorem dX2_carryOn_127 : decode cX2_carryOn 127 = .ok (.ior, 1) := by decide +kernel
theorem dX2_carryOn_128 : decode cX2_carryOn 128 = .ok (.putfield 57, 3) := by decide +kernel
theorem dX2_carryOn_131 : decode cX2_carryOn 131 = .ok (.return_, 1) := by decide +kernel
theorem dX2_carrierThen_0 : decode cX2_carrierThen 0 = .ok (.aload_n 0, 1) := by decide +kernel
theorem dX2_carrierThen_1 : decode cX2_carrierThen 1 = .ok (.getfield 23, 3) := by decide +kernel
theorem dX2_carrierThen_4 : decode cX2_carrierThen 4 = .ok (.iload_n 1, 1) := by decide +kernel
theorem dX2_carrierThen_5 : decode cX2_carrierThen 5 = .ok (.iaload, 1) := by decide +kernel
theorem dX2_carrierThen_6 : decode cX2_carrierThen 6 = .ok (.ireturn, 1) := by decide +kernel
theorem dX3_init_0 : decode cX3_init 0 = .ok (.aload_n 0, 1) := by decide +kernel
theorem dX3_init_1 : decode cX3_init 1 = .ok (.invokespecial 3, 3) := by decide +kernel
theorem dX3_init_4 : decode cX3_init 4 = .ok (.aload_n 0, 1) := by decide +kernel
theorem dX3_init_5 : decode cX3_init 5 = .ok (.new 9, 3) := by decide +kernel
theorem dX3_init_8 : decode cX3_init 8 = .ok (.dup, 1) := by decide +kernel
theorem dX3_init_9 : decode cX3_init 9 = .ok (.invokespecial 11, 3) := by decide +kernel
theorem dX3_init_12 : decode cX3_init 12 = .ok (.putfield 12, 3) := by decide +kernel
theorem dX3_init_15 : decode cX3_init 15 = .ok (.aload_n 0, 1) := by decide +kernel
theorem dX3_init_16 : decode cX3_init 16 = .ok (.new 9, 3) := by decide +kernel
theorem dX3_init_19 : decode cX3_init 19 = .ok (.dup, 1) := by decide +kernel
theorem dX3_init_20 : decode cX3_init 20 = .ok (.invokespecial 11, 3) := by decide +kernel
theorem dX3_init_23 : decode cX3_init 23 = .ok (.putfield 18, 3) := by decide +kernel
theorem dX3_init_26 : decode cX3_init 26 = .ok (.aload_n 0, 1) := by decide +kernel
theorem dX3_init_27 : decode cX3_init 27 = .ok (.bipush 6, 2) := by decide +kernel
theorem dX3_init_29 : decode cX3_init 29 = .ok (.newarray .int, 2) := by decide +kernel
theorem dX3_init_31 : decode cX3_init 31 = .ok (.putfield 21, 3) := by decide +kernel
theorem dX3_init_34 : decode cX3_init 34 = .ok (.aload_n 0, 1) := by decide +kernel
theorem dX3_init_35 : decode cX3_init 35 = .ok (.bipush 12, 2) := by decide +kernel
theorem dX3_init_37 : decode cX3_init 37 = .ok (.newarray .int, 2) := by decide +kernel
theorem dX3_init_39 : decode cX3_init 39 = .ok (.putfield 25, 3) := by decide +kernel
theorem dX3_init_42 : decode cX3_init 42 = .ok (.aload_n 0, 1) := by decide +kernel
theorem dX3_init_43 : decode cX3_init 43 = .ok (.aload_n 1, 1) := by decide +kernel
theorem dX3_init_44 : decode cX3_init 44 = .ok (.putfield 28, 3) := by decide +kernel
theorem dX3_init_47 : decode cX3_init 47 = .ok (.return_, 1) := by decide +kernel
theorem dX3_prepare_0 : decode cX3_prepare 0 = .ok (.aload_n 0, 1) := by decide +kernel
theorem dX3_prepare_1 : decode cX3_prepare 1 = .ok (.getfield 12, 3) := by decide +kernel
theorem dX3_prepare_4 : decode cX3_prepare 4 = .ok (.aload_n 1, 1) := by decide +kernel
theorem dX3_prepare_5 : decode cX3_prepare 5 = .ok (.invokevirtual 32, 3) := by decide +kernel
theorem dX3_prepare_8 : decode cX3_prepare 8 = .ok (.aload_n 0, 1) := by decide +kernel
theorem dX3_prepare_9 : decode cX3_prepare 9 = .ok (.getfield 28, 3) := by decide +kernel
theorem dX3_prepare_12 : decode cX3_prepare 12 = .ok (.aload_n 1, 1) := by decide +kernel
theorem dX3_prepare_13 : decode cX3_prepare 13 = .ok (.iload_n 2, 1) := by decide +kernel
theorem dX3_prepare_14 : decode cX3_prepare 14 = .ok (.invokevirtual 36, 3) := by decide +kernel
theorem dX3_prepare_17 : decode cX3_prepare 17 = .ok (.return_, 1) := by decide +kernel
theorem dX3_goUntilThere_0 : decode cX3_goUntilThere 0 = .ok (.iconst 0, 1) := by decide +kernel
theorem dX3_goUntilThere_1 : decode cX3_goUntilThere 1 = .ok (.istore_n 3, 1) := by decide +kernel
theorem dX3_goUntilThere_2 : decode cX3_goUntilThere 2 = .ok (.iload_n 3, 1) := by decide +kernel
theorem dX3_goUntilThere_3 : decode cX3_goUntilThere 3 = .ok (.iload_n 2, 1) := by decide +kernel
theorem dX3_goUntilThere_4 : decode cX3_goUntilThere 4 = .ok (.if_icmp .gt 38, 3) := by decide +kernel
theorem dX3_goUntilThere_7 : decode cX3_goUntilThere 7 = .ok (.aload_n 0, 1) := by decide +kernel
theorem dX3_goUntilThere_8 : decode cX3_goUntilThere 8 = .ok (.getfield 12, 3) := by decide +kernel
theorem dX3_goUntilThere_11 : decode cX3_goUntilThere 11 = .ok (.iload_n 1, 1) := by decide +kernel
theorem dX3_goUntilThere_12 : decode cX3_goUntilThere 12 = .ok (.invokevirtual 42, 3) := by decide +kernel
theorem dX3_goUntilThere_15 : decode cX3_goUntilThere 15 = .ok (.ifCond .eq 5, 3) := by decide +kernel
theorem dX3_goUntilThere_18 : decode cX3_goUntilThere 18 = .ok (.iload_n 3, 1) := by decide +kernel
theorem dX3_goUntilThere_19 : decode cX3_goUntilThere 19 = .ok (.ireturn, 1) := by decide +kernel
theorem dX3_goUntilThere_20 : decode cX3_goUntilThere 20 = .ok (.iload_n 3, 1) := by decide +kernel
theorem dX3_goUntilThere_21 : decode cX3_goUntilThere 21 = .ok (.iload_n 2, 1) := by decide +kernel
theorem dX3_goUntilThere_22 : decode cX3_goUntilThere 22 = .ok (.if_icmp .ge 14, 3) := by decide +kernel
theorem dX3_goUntilThere_25 : decode cX3_goUntilThere 25 = .ok (.aload_n 0, 1) := by decide +kernel
theorem dX3_goUntilThere_26 : decode cX3_goUntilThere 26 = .ok (.getfield 28, 3) := by decide +kernel
theorem dX3_goUntilThere_29 : decode cX3_goUntilThere 29 = .ok (.aload_n 0, 1) := by decide +kernel
theorem dX3_goUntilThere_30 : decode cX3_goUntilThere 30 = .ok (.getfield 12, 3) := by decide +kernel
theorem dX3_goUntilThere_33 : decode cX3_goUntilThere 33 = .ok (.invokevirtual 46, 3) := by decide +kernel
theorem dX3_goUntilThere_36 : decode cX3_goUntilThere 36 = .ok (.iinc 3 1, 3) := by decide +kernel
theorem dX3_goUntilThere_39 : decode cX3_goUntilThere 39 = .ok (.goto (-37), 3) := by decide +kernel
theorem dX3_goUntilThere_42 : decode cX3_goUntilThere 42 = .ok (.ldc 49, 2) := by decide +kernel
theorem dX3_goUntilThere_44 : decode cX3_goUntilThere 44 = .ok (.ireturn, 1) := by decide +kernel
theorem dX3_nextCarrier_0 : decode cX3_nextCarrier 0 = .ok (.aload_n 0, 1) := by decide +kernel
theorem dX3_nextCarrier_1 : decode cX3_nextCarrier 1 = .ok (.aload_n 1, 1) := by decide +kernel
theorem dX3_nextCarrier_2 : decode cX3_nextCarrier 2 = .ok (.iconst 1, 1) := by decide +kernel
theorem dX3_nextCarrier_3 : decode cX3_nextCarrier 3 = .ok (.invokevirtual 50, 3) := by decide +kernel
theorem dX3_nextCarrier_6 : decode cX3_nextCarrier 6 = .ok (.aload_n 0, 1) := by decide +kernel
theorem dX3_nextCarrier_7 : decode cX3_nextCarrier 7 = .ok (.getfield 28, 3) := by decide +kernel
theorem dX3_nextCarrier_10 : decode cX3_nextCarrier 10 = .ok (.aload_n 0, 1) := by decide +kernel
theorem dX3_nextCarrier_11 : decode cX3_nextCarrier 11 = .ok (.getfield 12, 3) := by decide +kernel
theorem dX3_nextCarrier_14 : decode cX3_nextCarrier 14 = .ok (.invokevirtual 46, 3) := by decide +kernel
theorem dX3_nextCarrier_17 : decode cX3_nextCarrier 17 = .ok (.aload_n 0, 1) := by decide +kernel
theorem dX3_nextCarrier_18 : decode cX3_nextCarrier 18 = .ok (.getfield 28, 3) := by decide +kernel
theorem dX3_nextCarrier_21 : decode cX3_nextCarrier 21 = .ok (.iload_n 2, 1) := by decide +kernel
theorem dX3_nextCarrier_22 : decode cX3_nextCarrier 22 = .ok (.invokevirtual 53, 3) := by decide +kernel
theorem dX3_nextCarrier_25 : decode cX3_nextCarrier 25 = .ok (.ireturn, 1) := by decide +kernel
theorem dX3_placeBehind_0 : decode cX3_placeBehind 0 = .ok (.aload_n 0, 1) := by decide +kernel
theorem dX3_placeBehind_1 : decode cX3_placeBehind 1 = .ok (.aload_n 1, 1) := by decide +kernel
theorem dX3_placeBehind_2 : decode cX3_placeBehind 2 = .ok (.iload_n 3, 1) := by decide +kernel
theorem dX3_placeBehind_3 : decode cX3_placeBehind 3 = .ok (.invokevirtual 50, 3) := by decide +kernel
theorem dX3_placeBehind_6 : decode cX3_placeBehind 6 = .ok (.iconst 0, 1) := by decide +kernel
theorem dX3_placeBehind_7 : decode cX3_placeBehind 7 = .ok (.istore 4, 2) := by decide +kernel
theorem dX3_placeBehind_9 : decode cX3_placeBehind 9 = .ok (.iload 4, 2) := by decide +kernel
theorem dX3_placeBehind_11 : decode cX3_placeBehind 11 = .ok (.iload_n 3, 1) := by decide +kernel
theorem dX3_placeBehind_12 : decode cX3_placeBehind 12 = .ok (.if_icmp .ge 20, 3) := by decide +kernel
theorem dX3_placeBehind_15 : decode cX3_placeBehind 15 = .ok (.aload_n 0, 1) := by decide +kernel
theorem dX3_placeBehind_16 : decode cX3_placeBehind 16 = .ok (.getfield 28, 3) := by decide +kernel
theorem dX3_placeBehind_19 : decode cX3_placeBehind 19 = .ok (.aload_n 0, 1) := by decide +kernel
theorem dX3_placeBehind_20 : decode cX3_placeBehind 20 = .ok (.getfield 12, 3) := by decide +kernel
theorem dX3_placeBehind_23 : decode cX3_placeBehind 23 = .ok (.invokevirtual 46, 3) := by decide +kernel
theorem dX3_placeBehind_26 : decode cX3_placeBehind 26 = .ok (.iinc 4 1, 3) := by decide +kernel
theorem dX3_placeBehind_29 : decode cX3_placeBehind 29 = .ok (.goto (-20), 3) := by decide +kernel
theorem dX3_placeBehind_32 : decode cX3_placeBehind 32 = .ok (.aload_n 0, 1) := by decide +kernel
theorem dX3_placeBehind_33 : decode cX3_placeBehind 33 = .ok (.getfield 12, 3) := by decide +kernel
theorem dX3_placeBehind_36 : decode cX3_placeBehind 36 = .ok (.getfield 57, 3) := by decide +kernel
theorem dX3_placeBehind_39 : decode cX3_placeBehind 39 = .ok (.iload_n 2, 1) := by decide +kernel
theorem dX3_placeBehind_40 : decode cX3_placeBehind 40 = .ok (.iaload, 1) := by decide +kernel
theorem dX3_placeBehind_41 : decode cX3_placeBehind 41 = .ok (.ireturn, 1) := by decide +kernel
theorem dX3_arrival_0 : decode cX3_arrival 0 = .ok (.aload_n 0, 1) := by decide +kernel
theorem dX3_arrival_1 : decode cX3_arrival 1 = .ok (.aload_n 1, 1) := by decide +kernel
theorem dX3_arrival_2 : decode cX3_arrival 2 = .ok (.bipush 99, 2) := by decide +kernel
theorem dX3_arrival_4 : decode cX3_arrival 4 = .ok (.invokevirtual 50, 3) := by decide +kernel
theorem dX3_arrival_7 : decode cX3_arrival 7 = .ok (.aload_n 0, 1) := by decide +kernel
theorem dX3_arrival_8 : decode cX3_arrival 8 = .ok (.iload_n 2, 1) := by decide +kernel
theorem dX3_arrival_9 : decode cX3_arrival 9 = .ok (.bipush 99, 2) := by decide +kernel
theorem dX3_arrival_11 : decode cX3_arrival 11 = .ok (.invokevirtual 60, 3) := by decide +kernel
theorem dX3_arrival_14 : decode cX3_arrival 14 = .ok (.ireturn, 1) := by decide +kernel
theorem dX3_carriersOf_0 : decode cX3_carriersOf 0 = .ok (.aload_n 0, 1) := by decide +kernel
theorem dX3_carriersOf_1 : decode cX3_carriersOf 1 = .ok (.aload_n 1, 1) := by decide +kernel
theorem dX3_carriersOf_2 : decode cX3_carriersOf 2 = .ok (.iload_n 3, 1) := by decide +kernel
theorem dX3_carriersOf_3 : decode cX3_carriersOf 3 = .ok (.invokevirtual 50, 3) := by decide +kernel
theorem dX3_carriersOf_6 : decode cX3_carriersOf 6 = .ok (.iconst 0, 1) := by decide +kernel
theorem dX3_carriersOf_7 : decode cX3_carriersOf 7 = .ok (.istore 4, 2) := by decide +kernel
theorem dX3_carriersOf_9 : decode cX3_carriersOf 9 = .ok (.iconst 0, 1) := by decide +kernel
theorem dX3_carriersOf_10 : decode cX3_carriersOf 10 = .ok (.istore 5, 2) := by decide +kernel
theorem dX3_carriersOf_12 : decode cX3_carriersOf 12 = .ok (.iload 5, 2) := by decide +kernel
theorem dX3_carriersOf_14 : decode cX3_carriersOf 14 = .ok (.iload_n 3, 1) := by decide +kernel
theorem dX3_carriersOf_15 : decode cX3_carriersOf 15 = .ok (.if_icmp .ge 50, 3) := by decide +kernel
theorem dX3_carriersOf_18 : decode cX3_carriersOf 18 = .ok (.aload_n 0, 1) := by decide +kernel
theorem dX3_carriersOf_19 : decode cX3_carriersOf 19 = .ok (.getfield 28, 3) := by decide +kernel
theorem dX3_carriersOf_22 : decode cX3_carriersOf 22 = .ok (.aload_n 0, 1) := by decide +kernel
theorem dX3_carriersOf_23 : decode cX3_carriersOf 23 = .ok (.getfield 12, 3) := by decide +kernel
theorem dX3_carriersOf_26 : decode cX3_carriersOf 26 = .ok (.invokevirtual 46, 3) := by decide +kernel
theorem dX3_carriersOf_29 : decode cX3_carriersOf 29 = .ok (.aload_n 0, 1) := by decide +kernel
theorem dX3_carriersOf_30 : decode cX3_carriersOf 30 = .ok (.getfield 28, 3) := by decide +kernel
theorem dX3_carriersOf_33 : decode cX3_carriersOf 33 = .ok (.iload_n 2, 1) := by decide +kernel
theorem dX3_carriersOf_34 : decode cX3_carriersOf 34 = .ok (.invokevirtual 53, 3) := by decide +kernel
theorem dX3_carriersOf_37 : decode cX3_carriersOf 37 = .ok (.istore 6, 2) := by decide +kernel
theorem dX3_carriersOf_39 : decode cX3_carriersOf 39 = .ok (.iload 4, 2) := by decide +kernel
theorem dX3_carriersOf_41 : decode cX3_carriersOf 41 = .ok (.iload 6, 2) := by decide +kernel
theorem dX3_carriersOf_43 : decode cX3_carriersOf 43 = .ok (.ldc 49, 2) := by decide +kernel
theorem dX3_carriersOf_45 : decode cX3_carriersOf 45 = .ok (.if_icmp .eq 10, 3) := by decide +kernel
theorem dX3_carriersOf_48 : decode cX3_carriersOf 48 = .ok (.iconst 1, 1) := by decide +kernel
theorem dX3_carriersOf_49 : decode cX3_carriersOf 49 = .ok (.iload 6, 2) := by decide +kernel
theorem dX3_carriersOf_51 : decode cX3_carriersOf 51 = .ok (.ishl, 1) := by decide +kernel
theorem dX3_carriersOf_52 : decode cX3_carriersOf 52 = .ok (.goto 4, 3) := by decide +kernel
theorem dX3_carriersOf_55 : decode cX3_carriersOf 55 = .ok (.iconst 0, 1) := by decide +kernel
theorem dX3_carriersOf_56 : decode cX3_carriersOf 56 = .ok (.ior, 1) := by decide +kernel
theorem dX3_carriersOf_57 : decode cX3_carriersOf 57 = .ok (.istore 4, 2) := by decide +kernel
theorem dX3_carriersOf_59 : decode cX3_carriersOf 59 = .ok (.iinc 5 1, 3) := by decide +kernel
theorem dX3_carriersOf_62 : decode cX3_carriersOf 62 = .ok (.goto (-50), 3) := by decide +kernel
theorem dX3_carriersOf_65 : decode cX3_carriersOf 65 = .ok (.iload 4, 2) := by decide +kernel
theorem dX3_carriersOf_67 : decode cX3_carriersOf 67 = .ok (.ireturn, 1) := by decide +kernel
theorem dX3_soonest_0 : decode cX3_soonest 0 = .ok (.aload_n 0, 1) := by decide +kernel
theorem dX3_soonest_1 : decode cX3_soonest 1 = .ok (.aload_n 1, 1) := by decide +kernel
theorem dX3_soonest_2 : decode cX3_soonest 2 = .ok (.bipush 99, 2) := by decide +kernel
theorem dX3_soonest_4 : decode cX3_soonest 4 = .ok (.invokevirtual 50, 3) := by decide +kernel
theorem dX3_soonest_7 : decode cX3_soonest 7 = .ok (.aload_n 0, 1) := by decide +kernel
theorem dX3_soonest_8 : decode cX3_soonest 8 = .ok (.getfield 18, 3) := by decide +kernel
theorem dX3_soonest_11 : decode cX3_soonest 11 = .ok (.aload_n 1, 1) := by decide +kernel
theorem dX3_soonest_12 : decode cX3_soonest 12 = .ok (.invokevirtual 32, 3) := by decide +kernel
theorem dX3_soonest_15 : decode cX3_soonest 15 = .ok (.ldc 49, 2) := by decide +kernel
theorem dX3_soonest_17 : decode cX3_soonest 17 = .ok (.istore 5, 2) := by decide +kernel
theorem dX3_soonest_19 : decode cX3_soonest 19 = .ok (.bipush 99, 2) := by decide +kernel
theorem dX3_soonest_21 : decode cX3_soonest 21 = .ok (.istore 6, 2) := by decide +kernel
theorem dX3_soonest_23 : decode cX3_soonest 23 = .ok (.iconst 0, 1) := by decide +kernel
theorem dX3_soonest_24 : decode cX3_soonest 24 = .ok (.istore 7, 2) := by decide +kernel
theorem dX3_soonest_26 : decode cX3_soonest 26 = .ok (.iload 7, 2) := by decide +kernel
theorem dX3_soonest_28 : decode cX3_soonest 28 = .ok (.aload_n 1, 1) := by decide +kernel
theorem dX3_soonest_29 : decode cX3_soonest 29 = .ok (.getfield 64, 3) := by decide +kernel
theorem dX3_soonest_32 : decode cX3_soonest 32 = .ok (.if_icmp .ge 71, 3) := by decide +kernel
theorem dX3_soonest_35 : decode cX3_soonest 35 = .ok (.aload_n 0, 1) := by decide +kernel
theorem dX3_soonest_36 : decode cX3_soonest 36 = .ok (.getfield 12, 3) := by decide +kernel
theorem dX3_soonest_39 : decode cX3_soonest 39 = .ok (.aload_n 0, 1) := by decide +kernel
theorem dX3_soonest_40 : decode cX3_soonest 40 = .ok (.getfield 18, 3) := by decide +kernel
theorem dX3_soonest_43 : decode cX3_soonest 43 = .ok (.invokevirtual 68, 3) := by decide +kernel
theorem dX3_soonest_46 : decode cX3_soonest 46 = .ok (.aload_n 0, 1) := by decide +kernel
theorem dX3_soonest_47 : decode cX3_soonest 47 = .ok (.getfield 12, 3) := by decide +kernel
theorem dX3_soonest_50 : decode cX3_soonest 50 = .ok (.iconst 3, 1) := by decide +kernel
theorem dX3_soonest_51 : decode cX3_soonest 51 = .ok (.iload_n 2, 1) := by decide +kernel
theorem dX3_soonest_52 : decode cX3_soonest 52 = .ok (.iload_n 3, 1) := by decide +kernel
theorem dX3_soonest_53 : decode cX3_soonest 53 = .ok (.invokevirtual 71, 3) := by decide +kernel
theorem dX3_soonest_56 : decode cX3_soonest 56 = .ok (.aload_n 0, 1) := by decide +kernel
theorem dX3_soonest_57 : decode cX3_soonest 57 = .ok (.iconst 3, 1) := by decide +kernel
theorem dX3_soonest_58 : decode cX3_soonest 58 = .ok (.iload 6, 2) := by decide +kernel
theorem dX3_soonest_60 : decode cX3_soonest 60 = .ok (.iload 7, 2) := by decide +kernel
theorem dX3_soonest_62 : decode cX3_soonest 62 = .ok (.isub, 1) := by decide +kernel
theorem dX3_soonest_63 : decode cX3_soonest 63 = .ok (.invokevirtual 60, 3) := by decide +kernel
theorem dX3_soonest_66 : decode cX3_soonest 66 = .ok (.istore 8, 2) := by decide +kernel
theorem dX3_soonest_68 : decode cX3_soonest 68 = .ok (.iload 8, 2) := by decide +kernel
theorem dX3_soonest_70 : decode cX3_soonest 70 = .ok (.ldc 49, 2) := by decide +kernel
theorem dX3_soonest_72 : decode cX3_soonest 72 = .ok (.if_icmp .eq 14, 3) := by decide +kernel
theorem dX3_soonest_75 : decode cX3_soonest 75 = .ok (.iload 7, 2) := by decide +kernel
theorem dX3_soonest_77 : decode cX3_soonest 77 = .ok (.istore 5, 2) := by decide +kernel
theorem dX3_soonest_79 : decode cX3_soonest 79 = .ok (.iload 7, 2) := by decide +kernel
theorem dX3_soonest_81 : decode cX3_soonest 81 = .ok (.iload 8, 2) := by decide +kernel
theorem dX3_soonest_83 : decode cX3_soonest 83 = .ok (.iadd, 1) := by decide +kernel
theorem dX3_soonest_84 : decode cX3_soonest 84 = .ok (.istore 6, 2) := by decide +kernel
theorem dX3_soonest_86 : decode cX3_soonest 86 = .ok (.aload_n 0, 1) := by decide +kernel
theorem dX3_soonest_87 : decode cX3_soonest 87 = .ok (.getfield 28, 3) := by decide +kernel
theorem dX3_soonest_90 : decode cX3_soonest 90 = .ok (.aload_n 0, 1) := by decide +kernel
theorem dX3_soonest_91 : decode cX3_soonest 91 = .ok (.getfield 18, 3) := by decide +kernel
theorem dX3_soonest_94 : decode cX3_soonest 94 = .ok (.invokevirtual 46, 3) := by decide +kernel
theorem dX3_soonest_97 : decode cX3_soonest 97 = .ok (.iinc 7 1, 3) := by decide +kernel
theorem dX3_soonest_100 : decode cX3_soonest 100 = .ok (.goto (-74), 3) := by decide +kernel
theorem dX3_soonest_103 : decode cX3_soonest 103 = .ok (.iload 4, 2) := by decide +kernel
theorem dX3_soonest_105 : decode cX3_soonest 105 = .ok (.ifCond .eq 10, 3) := by decide +kernel
theorem dX3_soonest_108 : decode cX3_soonest 108 = .ok (.iload 5, 2) := by decide +kernel
theorem dX3_soonest_110 : decode cX3_soonest 110 = .ok (.ldc 49, 2) := by decide +kernel
theorem dX3_soonest_112 : decode cX3_soonest 112 = .ok (.if_icmp .ne 8, 3) := by decide +kernel
theorem dX3_soonest_115 : decode cX3_soonest 115 = .ok (.iload 5, 2) := by decide +kernel
theorem dX3_soonest_117 : decode cX3_soonest 117 = .ok (.goto 5, 3) := by decide +kernel
theorem dX3_soonest_120 : decode cX3_soonest 120 = .ok (.iload 6, 2) := by decide +kernel
theorem dX3_soonest_122 : decode cX3_soonest 122 = .ok (.ireturn, 1) := by decide +kernel
theorem dX3_reaches_0 : decode cX3_reaches 0 = .ok (.aload_n 0, 1) := by decide +kernel
theorem dX3_reaches_1 : decode cX3_reaches 1 = .ok (.getfield 12, 3) := by decide +kernel
theorem dX3_reaches_4 : decode cX3_reaches 4 = .ok (.aload_n 1, 1) := by decide +kernel
theorem dX3_reaches_5 : decode cX3_reaches 5 = .ok (.invokevirtual 68, 3) := by decide +kernel
theorem dX3_reaches_8 : decode cX3_reaches 8 = .ok (.aload_n 0, 1) := by decide +kernel
theorem dX3_reaches_9 : decode cX3_reaches 9 = .ok (.getfield 12, 3) := by decide +kernel
theorem dX3_reaches_12 : decode cX3_reaches 12 = .ok (.iconst 3, 1) := by decide +kernel
theorem dX3_reaches_13 : decode cX3_reaches 13 = .ok (.iload_n 2, 1) := by decide +kernel
theorem dX3_reaches_14 : decode cX3_reaches 14 = .ok (.iload_n 3, 1) := by decide +kernel
theorem dX3_reaches_15 : decode cX3_reaches 15 = .ok (.invokevirtual 71, 3) := by decide +kernel
theorem dX3_reaches_18 : decode cX3_reaches 18 = .ok (.aload_n 0, 1) := by decide +kernel
theorem dX3_reaches_19 : decode cX3_reaches 19 = .ok (.iconst 3, 1) := by decide +kernel
theorem dX3_reaches_20 : decode cX3_reaches 20 = .ok (.iload 4, 2) := by decide +kernel
theorem dX3_reaches_22 : decode cX3_reaches 22 = .ok (.invokevirtual 60, 3) := by decide +kernel
theorem dX3_reaches_25 : decode cX3_reaches 25 = .ok (.ldc 49, 2) := by decide +kernel
theorem dX3_reaches_27 : decode cX3_reaches 27 = .ok (.if_icmp .eq 7, 3) := by decide +kernel
theorem dX3_reaches_30 : decode cX3_reaches 30 = .ok (.iconst 1, 1) := by decide +kernel
theorem dX3_reaches_31 : decode cX3_reaches 31 = .ok (.goto 4, 3) := by decide +kernel
theorem dX3_reaches_34 : decode cX3_reaches 34 = .ok (.iconst 0, 1) := by decide +kernel
theorem dX3_reaches_35 : decode cX3_reaches 35 = .ok (.ireturn, 1) := by decide +kernel
theorem dX3_spotsFor_0 : decode cX3_spotsFor 0 = .ok (.aload_n 0, 1) := by decide +kernel
theorem dX3_spotsFor_1 : decode cX3_spotsFor 1 = .ok (.aload_n 1, 1) := by decide +kernel
theorem dX3_spotsFor_2 : decode cX3_spotsFor 2 = .ok (.iload_n 3, 1) := by decide +kernel
theorem dX3_spotsFor_3 : decode cX3_spotsFor 3 = .ok (.invokevirtual 50, 3) := by decide +kernel
theorem dX3_spotsFor_6 : decode cX3_spotsFor 6 = .ok (.iconst 0, 1) := by decide +kernel
theorem dX3_spotsFor_7 : decode cX3_spotsFor 7 = .ok (.istore 4, 2) := by decide +kernel
theorem dX3_spotsFor_9 : decode cX3_spotsFor 9 = .ok (.iconst 0, 1) := by decide +kernel
theorem dX3_spotsFor_10 : decode cX3_spotsFor 10 = .ok (.istore 5, 2) := by decide +kernel
theorem dX3_spotsFor_12 : decode cX3_spotsFor 12 = .ok (.iload 5, 2) := by decide +kernel
theorem dX3_spotsFor_14 : decode cX3_spotsFor 14 = .ok (.aload_n 1, 1) := by decide +kernel
theorem dX3_spotsFor_15 : decode cX3_spotsFor 15 = .ok (.getfield 75, 3) := by decide +kernel
theorem dX3_spotsFor_18 : decode cX3_spotsFor 18 = .ok (.if_icmp .ge 34, 3) := by decide +kernel
theorem dX3_spotsFor_21 : decode cX3_spotsFor 21 = .ok (.iload 4, 2) := by decide +kernel
theorem dX3_spotsFor_23 : decode cX3_spotsFor 23 = .ok (.aload_n 0, 1) := by decide +kernel
theorem dX3_spotsFor_24 : decode cX3_spotsFor 24 = .ok (.aload_n 1, 1) := by decide +kernel
theorem dX3_spotsFor_25 : decode cX3_spotsFor 25 = .ok (.iload 5, 2) := by decide +kernel
theorem dX3_spotsFor_27 : decode cX3_spotsFor 27 = .ok (.iload_n 2, 1) := by decide +kernel
theorem dX3_spotsFor_28 : decode cX3_spotsFor 28 = .ok (.iload_n 3, 1) := by decide +kernel
theorem dX3_spotsFor_29 : decode cX3_spotsFor 29 = .ok (.invokevirtual 78, 3) := by decide +kernel
theorem dX3_spotsFor_32 : decode cX3_spotsFor 32 = .ok (.ifCond .eq 10, 3) := by decide +kernel
theorem dX3_spotsFor_35 : decode cX3_spotsFor 35 = .ok (.iconst 1, 1) := by decide +kernel
theorem dX3_spotsFor_36 : decode cX3_spotsFor 36 = .ok (.iload 5, 2) := by decide +kernel
theorem dX3_spotsFor_38 : decode cX3_spotsFor 38 = .ok (.ishl, 1) := by decide +kernel
theorem dX3_spotsFor_39 : decode cX3_spotsFor 39 = .ok (.goto 4, 3) := by decide +kernel
theorem dX3_spotsFor_42 : decode cX3_spotsFor 42 = .ok (.iconst 0, 1) := by decide +kernel
theorem dX3_spotsFor_43 : decode cX3_spotsFor 43 = .ok (.ior, 1) := by decide +kernel
theorem dX3_spotsFor_44 : decode cX3_spotsFor 44 = .ok (.istore 4, 2) := by decide +kernel
theorem dX3_spotsFor_46 : decode cX3_spotsFor 46 = .ok (.iinc 5 1, 3) := by decide +kernel
theorem dX3_spotsFor_49 : decode cX3_spotsFor 49 = .ok (.goto (-37), 3) := by decide +kernel
theorem dX3_spotsFor_52 : decode cX3_spotsFor 52 = .ok (.iload 4, 2) := by decide +kernel
theorem dX3_spotsFor_54 : decode cX3_spotsFor 54 = .ok (.ireturn, 1) := by decide +kernel
theorem dX3_unreached_0 : decode cX3_unreached 0 = .ok (.aload_n 0, 1) := by decide +kernel
theorem dX3_unreached_1 : decode cX3_unreached 1 = .ok (.aload_n 1, 1) := by decide +kernel
theorem dX3_unreached_2 : decode cX3_unreached 2 = .ok (.bipush 99, 2) := by decide +kernel
theorem dX3_unreached_4 : decode cX3_unreached 4 = .ok (.invokevirtual 50, 3) := by decide +kernel
theorem dX3_unreached_7 : decode cX3_unreached 7 = .ok (.iconst 1, 1) := by decide +kernel
theorem dX3_unreached_8 : decode cX3_unreached 8 = .ok (.aload_n 1, 1) := by decide +kernel
theorem dX3_unreached_9 : decode cX3_unreached 9 = .ok (.getfield 75, 3) := by decide +kernel
theorem dX3_unreached_12 : decode cX3_unreached 12 = .ok (.ishl, 1) := by decide +kernel
theorem dX3_unreached_13 : decode cX3_unreached 13 = .ok (.iconst 1, 1) := by decide +kernel
theorem dX3_unreached_14 : decode cX3_unreached 14 = .ok (.isub, 1) := by decide +kernel
theorem dX3_unreached_15 : decode cX3_unreached 15 = .ok (.istore_n 2, 1) := by decide +kernel
theorem dX3_unreached_16 : decode cX3_unreached 16 = .ok (.iconst 0, 1) := by decide +kernel
theorem dX3_unreached_17 : decode cX3_unreached 17 = .ok (.istore_n 3, 1) := by decide +kernel
theorem dX3_unreached_18 : decode cX3_unreached 18 = .ok (.iload_n 3, 1) := by decide +kernel
theorem dX3_unreached_19 : decode cX3_unreached 19 = .ok (.aload_n 1, 1) := by decide +kernel
theorem dX3_unreached_20 : decode cX3_unreached 20 = .ok (.getfield 75, 3) := by decide +kernel
theorem dX3_unreached_23 : decode cX3_unreached 23 = .ok (.if_icmp .ge 67, 3) := by decide +kernel
theorem dX3_unreached_26 : decode cX3_unreached 26 = .ok (.iconst 0, 1) := by decide +kernel
theorem dX3_unreached_27 : decode cX3_unreached 27 = .ok (.istore 4, 2) := by decide +kernel
theorem dX3_unreached_29 : decode cX3_unreached 29 = .ok (.iload 4, 2) := by decide +kernel
theorem dX3_unreached_31 : decode cX3_unreached 31 = .ok (.aload_n 1, 1) := by decide +kernel
theorem dX3_unreached_32 : decode cX3_unreached 32 = .ok (.getfield 75, 3) := by decide +kernel
theorem dX3_unreached_35 : decode cX3_unreached 35 = .ok (.if_icmp .ge 49, 3) := by decide +kernel
theorem dX3_unreached_38 : decode cX3_unreached 38 = .ok (.iload_n 2, 1) := by decide +kernel
theorem dX3_unreached_39 : decode cX3_unreached 39 = .ok (.iload_n 3, 1) := by decide +kernel
theorem dX3_unreached_40 : decode cX3_unreached 40 = .ok (.ishr, 1) := by decide +kernel
theorem dX3_unreached_41 : decode cX3_unreached 41 = .ok (.iconst 1, 1) := by decide +kernel
theorem dX3_unreached_42 : decode cX3_unreached 42 = .ok (.iand, 1) := by decide +kernel
theorem dX3_unreached_43 : decode cX3_unreached 43 = .ok (.iconst 1, 1) := by decide +kernel
theorem dX3_unreached_44 : decode cX3_unreached 44 = .ok (.if_icmp .ne 40, 3) := by decide +kernel
theorem dX3_unreached_47 : decode cX3_unreached 47 = .ok (.iload_n 2, 1) := by decide +kernel
theorem dX3_unreached_48 : decode cX3_unreached 48 = .ok (.iload 4, 2) := by decide +kernel
theorem dX3_unreached_50 : decode cX3_unreached 50 = .ok (.iload_n 3, 1) := by decide +kernel
theorem dX3_unreached_51 : decode cX3_unreached 51 = .ok (.if_icmp .eq 24, 3) := by decide +kernel
theorem dX3_unreached_54 : decode cX3_unreached 54 = .ok (.aload_n 0, 1) := by decide +kernel
theorem dX3_unreached_55 : decode cX3_unreached 55 = .ok (.aload_n 1, 1) := by decide +kernel
theorem dX3_unreached_56 : decode cX3_unreached 56 = .ok (.iload 4, 2) := by decide +kernel
theorem dX3_unreached_58 : decode cX3_unreached 58 = .ok (.iload_n 3, 1) := by decide +kernel
theorem dX3_unreached_59 : decode cX3_unreached 59 = .ok (.bipush 99, 2) := by decide +kernel
theorem dX3_unreached_61 : decode cX3_unreached 61 = .ok (.invokevirtual 78, 3) := by decide +kernel
theorem dX3_unreached_64 : decode cX3_unreached 64 = .ok (.ifCond .eq 11, 3) := by decide +kernel
theorem dX3_unreached_67 : decode cX3_unreached 67 = .ok (.iconst 1, 1) := by decide +kernel
theorem dX3_unreached_68 : decode cX3_unreached 68 = .ok (.iload_n 3, 1) := by decide +kernel
theorem dX3_unreached_69 : decode cX3_unreached 69 = .ok (.ishl, 1) := by decide +kernel
theorem dX3_unreached_70 : decode cX3_unreached 70 = .ok (.iconst (-1), 1) := by decide +kernel
theorem dX3_unreached_71 : decode cX3_unreached 71 = .ok (.ixor, 1) := by decide +kernel
theorem dX3_unreached_72 : decode cX3_unreached 72 = .ok (.goto 4, 3) := by decide +kernel
theorem dX3_unreached_75 : decode cX3_unreached 75 = .ok (.iconst (-1), 1) := by decide +kernel
theorem dX3_unreached_76 : decode cX3_unreached 76 = .ok (.iand, 1) := by decide +kernel
theorem dX3_unreached_77 : decode cX3_unreached 77 = .ok (.istore_n 2, 1) := by decide +kernel
theorem dX3_unreached_78 : decode cX3_unreached 78 = .ok (.iinc 4 1, 3) := by decide +kernel
theorem dX3_unreached_81 : decode cX3_unreached 81 = .ok (.goto (-52), 3) := by decide +kernel
theorem dX3_unreached_84 : decode cX3_unreached 84 = .ok (.iinc 3 1, 3) := by decide +kernel
theorem dX3_unreached_87 : decode cX3_unreached 87 = .ok (.goto (-69), 3) := by decide +kernel
theorem dX3_unreached_90 : decode cX3_unreached 90 = .ok (.iload_n 2, 1) := by decide +kernel
theorem dX3_unreached_91 : decode cX3_unreached 91 = .ok (.ireturn, 1) := by decide +kernel
theorem dX3_isThereWith_0 : decode cX3_isThereWith 0 = .ok (.aload_n 0, 1) := by decide +kernel
theorem dX3_isThereWith_1 : decode cX3_isThereWith 1 = .ok (.getfield 12, 3) := by decide +kernel
theorem dX3_isThereWith_4 : decode cX3_isThereWith 4 = .ok (.aload_n 1, 1) := by decide +kernel
theorem dX3_isThereWith_5 : decode cX3_isThereWith 5 = .ok (.invokevirtual 68, 3) := by decide +kernel
theorem dX3_isThereWith_8 : decode cX3_isThereWith 8 = .ok (.aload_n 0, 1) := by decide +kernel
theorem dX3_isThereWith_9 : decode cX3_isThereWith 9 = .ok (.getfield 12, 3) := by decide +kernel
theorem dX3_isThereWith_12 : decode cX3_isThereWith 12 = .ok (.iload_n 2, 1) := by decide +kernel
theorem dX3_isThereWith_13 : decode cX3_isThereWith 13 = .ok (.putfield 82, 3) := by decide +kernel
theorem dX3_isThereWith_16 : decode cX3_isThereWith 16 = .ok (.aload_n 0, 1) := by decide +kernel
theorem dX3_isThereWith_17 : decode cX3_isThereWith 17 = .ok (.iload_n 3, 1) := by decide +kernel
theorem dX3_isThereWith_18 : decode cX3_isThereWith 18 = .ok (.iload 4, 2) := by decide +kernel
theorem dX3_isThereWith_20 : decode cX3_isThereWith 20 = .ok (.invokevirtual 60, 3) := by decide +kernel
theorem dX3_isThereWith_23 : decode cX3_isThereWith 23 = .ok (.ldc 49, 2) := by decide +kernel
theorem dX3_isThereWith_25 : decode cX3_isThereWith 25 = .ok (.if_icmp .eq 7, 3) := by decide +kernel
theorem dX3_isThereWith_28 : decode cX3_isThereWith 28 = .ok (.iconst 1, 1) := by decide +kernel
theorem dX3_isThereWith_29 : decode cX3_isThereWith 29 = .ok (.goto 4, 3) := by decide +kernel
theorem dX3_isThereWith_32 : decode cX3_isThereWith 32 = .ok (.iconst 0, 1) := by decide +kernel
theorem dX3_isThereWith_33 : decode cX3_isThereWith 33 = .ok (.ireturn, 1) := by decide +kernel
theorem dX3_fewest_0 : decode cX3_fewest 0 = .ok (.aload_n 0, 1) := by decide +kernel
theorem dX3_fewest_1 : decode cX3_fewest 1 = .ok (.aload_n 1, 1) := by decide +kernel
theorem dX3_fewest_2 : decode cX3_fewest 2 = .ok (.iload_n 3, 1) := by decide +kernel
theorem dX3_fewest_3 : decode cX3_fewest 3 = .ok (.invokevirtual 50, 3) := by decide +kernel
theorem dX3_fewest_6 : decode cX3_fewest 6 = .ok (.aload_n 1, 1) := by decide +kernel
theorem dX3_fewest_7 : decode cX3_fewest 7 = .ok (.invokevirtual 85, 3) := by decide +kernel
theorem dX3_fewest_10 : decode cX3_fewest 10 = .ok (.istore 5, 2) := by decide +kernel
theorem dX3_fewest_12 : decode cX3_fewest 12 = .ok (.ldc 49, 2) := by decide +kernel
theorem dX3_fewest_14 : decode cX3_fewest 14 = .ok (.istore 6, 2) := by decide +kernel
theorem dX3_fewest_16 : decode cX3_fewest 16 = .ok (.iconst 0, 1) := by decide +kernel
theorem dX3_fewest_17 : decode cX3_fewest 17 = .ok (.istore 7, 2) := by decide +kernel
theorem dX3_fewest_19 : decode cX3_fewest 19 = .ok (.iload 7, 2) := by decide +kernel
theorem dX3_fewest_21 : decode cX3_fewest 21 = .ok (.iload 5, 2) := by decide +kernel
theorem dX3_fewest_23 : decode cX3_fewest 23 = .ok (.if_icmp .gt 72, 3) := by decide +kernel
theorem dX3_fewest_26 : decode cX3_fewest 26 = .ok (.iload 6, 2) := by decide +kernel
theorem dX3_fewest_28 : decode cX3_fewest 28 = .ok (.ldc 49, 2) := by decide +kernel
theorem dX3_fewest_30 : decode cX3_fewest 30 = .ok (.if_icmp .eq 16, 3) := by decide +kernel
theorem dX3_fewest_33 : decode cX3_fewest 33 = .ok (.iload 7, 2) := by decide +kernel
theorem dX3_fewest_35 : decode cX3_fewest 35 = .ok (.invokestatic 89, 3) := by decide +kernel
theorem dX3_fewest_38 : decode cX3_fewest 38 = .ok (.iload 6, 2) := by decide +kernel
theorem dX3_fewest_40 : decode cX3_fewest 40 = .ok (.invokestatic 89, 3) := by decide +kernel
theorem dX3_fewest_43 : decode cX3_fewest 43 = .ok (.if_icmp .ge 7, 3) := by decide +kernel
theorem dX3_fewest_46 : decode cX3_fewest 46 = .ok (.iconst 1, 1) := by decide +kernel
theorem dX3_fewest_47 : decode cX3_fewest 47 = .ok (.goto 4, 3) := by decide +kernel
theorem dX3_fewest_50 : decode cX3_fewest 50 = .ok (.iconst 0, 1) := by decide +kernel
theorem dX3_fewest_51 : decode cX3_fewest 51 = .ok (.istore 8, 2) := by decide +kernel
theorem dX3_fewest_53 : decode cX3_fewest 53 = .ok (.iload 7, 2) := by decide +kernel
theorem dX3_fewest_55 : decode cX3_fewest 55 = .ok (.aload_n 1, 1) := by decide +kernel
theorem dX3_fewest_56 : decode cX3_fewest 56 = .ok (.getfield 82, 3) := by decide +kernel
theorem dX3_fewest_59 : decode cX3_fewest 59 = .ok (.iand, 1) := by decide +kernel
theorem dX3_fewest_60 : decode cX3_fewest 60 = .ok (.ifCond .ne 29, 3) := by decide +kernel
theorem dX3_fewest_63 : decode cX3_fewest 63 = .ok (.iload 8, 2) := by decide +kernel
theorem dX3_fewest_65 : decode cX3_fewest 65 = .ok (.ifCond .eq 24, 3) := by decide +kernel
theorem dX3_fewest_68 : decode cX3_fewest 68 = .ok (.aload_n 0, 1) := by decide +kernel
theorem dX3_fewest_69 : decode cX3_fewest 69 = .ok (.aload_n 1, 1) := by decide +kernel
theorem dX3_fewest_70 : decode cX3_fewest 70 = .ok (.iload 5, 2) := by decide +kernel
theorem dX3_fewest_72 : decode cX3_fewest 72 = .ok (.iload 7, 2) := by decide +kernel
theorem dX3_fewest_74 : decode cX3_fewest 74 = .ok (.iconst (-1), 1) := by decide +kernel
theorem dX3_fewest_75 : decode cX3_fewest 75 = .ok (.ixor, 1) := by decide +kernel
theorem dX3_fewest_76 : decode cX3_fewest 76 = .ok (.iand, 1) := by decide +kernel
theorem dX3_fewest_77 : decode cX3_fewest 77 = .ok (.iload_n 2, 1) := by decide +kernel
theorem dX3_fewest_78 : decode cX3_fewest 78 = .ok (.iload_n 3, 1) := by decide +kernel
theorem dX3_fewest_79 : decode cX3_fewest 79 = .ok (.invokevirtual 94, 3) := by decide +kernel
theorem dX3_fewest_82 : decode cX3_fewest 82 = .ok (.ifCond .eq 7, 3) := by decide +kernel
theorem dX3_fewest_85 : decode cX3_fewest 85 = .ok (.iload 7, 2) := by decide +kernel
theorem dX3_fewest_87 : decode cX3_fewest 87 = .ok (.istore 6, 2) := by decide +kernel
theorem dX3_fewest_89 : decode cX3_fewest 89 = .ok (.iinc 7 1, 3) := by decide +kernel
theorem dX3_fewest_92 : decode cX3_fewest 92 = .ok (.goto (-73), 3) := by decide +kernel
theorem dX3_fewest_95 : decode cX3_fewest 95 = .ok (.iload 4, 2) := by decide +kernel
theorem dX3_fewest_97 : decode cX3_fewest 97 = .ok (.ifCond .ne 18, 3) := by decide +kernel
theorem dX3_fewest_100 : decode cX3_fewest 100 = .ok (.iload 6, 2) := by decide +kernel
theorem dX3_fewest_102 : decode cX3_fewest 102 = .ok (.ldc 49, 2) := by decide +kernel
theorem dX3_fewest_104 : decode cX3_fewest 104 = .ok (.if_icmp .eq 11, 3) := by decide +kernel
theorem dX3_fewest_107 : decode cX3_fewest 107 = .ok (.iload 6, 2) := by decide +kernel
theorem dX3_fewest_109 : decode cX3_fewest 109 = .ok (.invokestatic 89, 3) := by decide +kernel
theorem dX3_fewest_112 : decode cX3_fewest 112 = .ok (.goto 5, 3) := by decide +kernel
theorem dX3_fewest_115 : decode cX3_fewest 115 = .ok (.iload 6, 2) := by decide +kernel
theorem dX3_fewest_117 : decode cX3_fewest 117 = .ok (.ireturn, 1) := by decide +kernel
theorem dX3_neededFor_0 : decode cX3_neededFor 0 = .ok (.aload_n 0, 1) := by decide +kernel
theorem dX3_neededFor_1 : decode cX3_neededFor 1 = .ok (.aload_n 1, 1) := by decide +kernel
theorem dX3_neededFor_2 : decode cX3_neededFor 2 = .ok (.iload_n 3, 1) := by decide +kernel
theorem dX3_neededFor_3 : decode cX3_neededFor 3 = .ok (.invokevirtual 50, 3) := by decide +kernel
theorem dX3_neededFor_6 : decode cX3_neededFor 6 = .ok (.aload_n 0, 1) := by decide +kernel
theorem dX3_neededFor_7 : decode cX3_neededFor 7 = .ok (.aload_n 1, 1) := by decide +kernel
theorem dX3_neededFor_8 : decode cX3_neededFor 8 = .ok (.aload_n 1, 1) := by decide +kernel
theorem dX3_neededFor_9 : decode cX3_neededFor 9 = .ok (.getfield 82, 3) := by decide +kernel
theorem dX3_neededFor_12 : decode cX3_neededFor 12 = .ok (.iload_n 2, 1) := by decide +kernel
theorem dX3_neededFor_13 : decode cX3_neededFor 13 = .ok (.iload_n 3, 1) := by decide +kernel
theorem dX3_neededFor_14 : decode cX3_neededFor 14 = .ok (.invokevirtual 94, 3) := by decide +kernel
theorem dX3_neededFor_17 : decode cX3_neededFor 17 = .ok (.ifCond .ne 5, 3) := by decide +kernel
theorem dX3_neededFor_20 : decode cX3_neededFor 20 = .ok (.iconst 0, 1) := by decide +kernel
theorem dX3_neededFor_21 : decode cX3_neededFor 21 = .ok (.ireturn, 1) := by decide +kernel
theorem dX3_neededFor_22 : decode cX3_neededFor 22 = .ok (.iconst 0, 1) := by decide +kernel
theorem dX3_neededFor_23 : decode cX3_neededFor 23 = .ok (.istore 4, 2) := by decide +kernel
theorem dX3_neededFor_25 : decode cX3_neededFor 25 = .ok (.iconst 0, 1) := by decide +kernel
theorem dX3_neededFor_26 : decode cX3_neededFor 26 = .ok (.istore 5, 2) := by decide +kernel
theorem dX3_neededFor_28 : decode cX3_neededFor 28 = .ok (.iload 5, 2) := by decide +kernel
theorem dX3_neededFor_30 : decode cX3_neededFor 30 = .ok (.aload_n 1, 1) := by decide +kernel
theorem dX3_neededFor_31 : decode cX3_neededFor 31 = .ok (.getfield 97, 3) := by decide +kernel
theorem dX3_neededFor_34 : decode cX3_neededFor 34 = .ok (.if_icmp .ge 46, 3) := by decide +kernel
theorem dX3_neededFor_37 : decode cX3_neededFor 37 = .ok (.aload_n 1, 1) := by decide +kernel
theorem dX3_neededFor_38 : decode cX3_neededFor 38 = .ok (.iload 5, 2) := by decide +kernel
theorem dX3_neededFor_40 : decode cX3_neededFor 40 = .ok (.invokevirtual 100, 3) := by decide +kernel
theorem dX3_neededFor_43 : decode cX3_neededFor 43 = .ok (.ifCond .ne 31, 3) := by decide +kernel
theorem dX3_neededFor_46 : decode cX3_neededFor 46 = .ok (.aload_n 0, 1) := by decide +kernel
theorem dX3_neededFor_47 : decode cX3_neededFor 47 = .ok (.aload_n 1, 1) := by decide +kernel
theorem dX3_neededFor_48 : decode cX3_neededFor 48 = .ok (.aload_n 1, 1) := by decide +kernel
theorem dX3_neededFor_49 : decode cX3_neededFor 49 = .ok (.getfield 82, 3) := by decide +kernel
theorem dX3_neededFor_52 : decode cX3_neededFor 52 = .ok (.iconst 1, 1) := by decide +kernel
theorem dX3_neededFor_53 : decode cX3_neededFor 53 = .ok (.iload 5, 2) := by decide +kernel
theorem dX3_neededFor_55 : decode cX3_neededFor 55 = .ok (.ishl, 1) := by decide +kernel
theorem dX3_neededFor_56 : decode cX3_neededFor 56 = .ok (.ior, 1) := by decide +kernel
theorem dX3_neededFor_57 : decode cX3_neededFor 57 = .ok (.iload_n 2, 1) := by decide +kernel
theorem dX3_neededFor_58 : decode cX3_neededFor 58 = .ok (.iload_n 3, 1) := by decide +kernel
theorem dX3_neededFor_59 : decode cX3_neededFor 59 = .ok (.invokevirtual 94, 3) := by decide +kernel
theorem dX3_neededFor_62 : decode cX3_neededFor 62 = .ok (.ifCond .ne 12, 3) := by decide +kernel
theorem dX3_neededFor_65 : decode cX3_neededFor 65 = .ok (.iload 4, 2) := by decide +kernel
theorem dX3_neededFor_67 : decode cX3_neededFor 67 = .ok (.iconst 1, 1) := by decide +kernel
theorem dX3_neededFor_68 : decode cX3_neededFor 68 = .ok (.iload 5, 2) := by decide +kernel
theorem dX3_neededFor_70 : decode cX3_neededFor 70 = .ok (.ishl, 1) := by decide +kernel
theorem dX3_neededFor_71 : decode cX3_neededFor 71 = .ok (.ior, 1) := by decide +kernel
theorem dX3_neededFor_72 : decode cX3_neededFor 72 = .ok (.istore 4, 2) := by decide +kernel
theorem dX3_neededFor_74 : decode cX3_neededFor 74 = .ok (.iinc 5 1, 3) := by decide +kernel
theorem dX3_neededFor_77 : decode cX3_neededFor 77 = .ok (.goto (-49), 3) := by decide +kernel
theorem dX3_neededFor_80 : decode cX3_neededFor 80 = .ok (.iload 4, 2) := by decide +kernel
theorem dX3_neededFor_82 : decode cX3_neededFor 82 = .ok (.ireturn, 1) := by decide +kernel
theorem dX3_meeting_0 : decode cX3_meeting 0 = .ok (.iconst 0, 1) := by decide +kernel
theorem dX3_meeting_1 : decode cX3_meeting 1 = .ok (.istore 4, 2) := by decide +kernel
theorem dX3_meeting_3 : decode cX3_meeting 3 = .ok (.iload 4, 2) := by decide +kernel
theorem dX3_meeting_5 : decode cX3_meeting 5 = .ok (.bipush 99, 2) := by decide +kernel
theorem dX3_meeting_7 : decode cX3_meeting 7 = .ok (.if_icmp .gt 29, 3) := by decide +kernel
theorem dX3_meeting_10 : decode cX3_meeting 10 = .ok (.aload_n 1, 1) := by decide +kernel
theorem dX3_meeting_11 : decode cX3_meeting 11 = .ok (.iload_n 2, 1) := by decide +kernel
theorem dX3_meeting_12 : decode cX3_meeting 12 = .ok (.iload 4, 2) := by decide +kernel
theorem dX3_meeting_14 : decode cX3_meeting 14 = .ok (.invokevirtual 103, 3) := by decide +kernel
theorem dX3_meeting_17 : decode cX3_meeting 17 = .ok (.aload_n 1, 1) := by decide +kernel
theorem dX3_meeting_18 : decode cX3_meeting 18 = .ok (.iload_n 3, 1) := by decide +kernel
theorem dX3_meeting_19 : decode cX3_meeting 19 = .ok (.iload 4, 2) := by decide +kernel
theorem dX3_meeting_21 : decode cX3_meeting 21 = .ok (.invokevirtual 103, 3) := by decide +kernel
theorem dX3_meeting_24 : decode cX3_meeting 24 = .ok (.if_icmp .ne 6, 3) := by decide +kernel
theorem dX3_meeting_27 : decode cX3_meeting 27 = .ok (.iload 4, 2) := by decide +kernel
theorem dX3_meeting_29 : decode cX3_meeting 29 = .ok (.ireturn, 1) := by decide +kernel
theorem dX3_meeting_30 : decode cX3_meeting 30 = .ok (.iinc 4 1, 3) := by decide +kernel
theorem dX3_meeting_33 : decode cX3_meeting 33 = .ok (.goto (-30), 3) := by decide +kernel
theorem dX3_meeting_36 : decode cX3_meeting 36 = .ok (.ldc 49, 2) := by decide +kernel
theorem dX3_meeting_38 : decode cX3_meeting 38 = .ok (.ireturn, 1) := by decide +kernel
theorem dX3_answerTo_0 : decode cX3_answerTo 0 = .ok (.aload_n 0, 1) := by decide +kernel
theorem dX3_answerTo_1 : decode cX3_answerTo 1 = .ok (.aload_n 1, 1) := by decide +kernel
theorem dX3_answerTo_2 : decode cX3_answerTo 2 = .ok (.sipush 198, 3) := by decide +kernel
theorem dX3_answerTo_5 : decode cX3_answerTo 5 = .ok (.invokevirtual 50, 3) := by decide +kernel
theorem dX3_answerTo_8 : decode cX3_answerTo 8 = .ok (.aload_n 0, 1) := by decide +kernel
theorem dX3_answerTo_9 : decode cX3_answerTo 9 = .ok (.iload_n 2, 1) := by decide +kernel
theorem dX3_answerTo_10 : decode cX3_answerTo 10 = .ok (.bipush 99, 2) := by decide +kernel
theorem dX3_answerTo_12 : decode cX3_answerTo 12 = .ok (.invokevirtual 60, 3) := by decide +kernel
theorem dX3_answerTo_15 : decode cX3_answerTo 15 = .ok (.istore_n 3, 1) := by decide +kernel
theorem dX3_answerTo_16 : decode cX3_answerTo 16 = .ok (.iload_n 3, 1) := by decide +kernel
theorem dX3_answerTo_17 : decode cX3_answerTo 17 = .ok (.ldc 49, 2) := by decide +kernel
theorem dX3_answerTo_19 : decode cX3_answerTo 19 = .ok (.if_icmp .ne 6, 3) := by decide +kernel
theorem dX3_answerTo_22 : decode cX3_answerTo 22 = .ok (.ldc 49, 2) := by decide +kernel
theorem dX3_answerTo_24 : decode cX3_answerTo 24 = .ok (.ireturn, 1) := by decide +kernel
theorem dX3_answerTo_25 : decode cX3_answerTo 25 = .ok (.aload_n 0, 1) := by decide +kernel
theorem dX3_answerTo_26 : decode cX3_answerTo 26 = .ok (.getfield 12, 3) := by decide +kernel
theorem dX3_answerTo_29 : decode cX3_answerTo 29 = .ok (.iconst 3, 1) := by decide +kernel
theorem dX3_answerTo_30 : decode cX3_answerTo 30 = .ok (.aload_n 1, 1) := by decide +kernel
theorem dX3_answerTo_31 : decode cX3_answerTo 31 = .ok (.getfield 106, 3) := by decide +kernel
theorem dX3_answerTo_34 : decode cX3_answerTo 34 = .ok (.iload_n 2, 1) := by decide +kernel
theorem dX3_answerTo_35 : decode cX3_answerTo 35 = .ok (.iaload, 1) := by decide +kernel
theorem dX3_answerTo_36 : decode cX3_answerTo 36 = .ok (.aload_n 1, 1) := by decide +kernel
theorem dX3_answerTo_37 : decode cX3_answerTo 37 = .ok (.getfield 57, 3) := by decide +kernel
theorem dX3_answerTo_40 : decode cX3_answerTo 40 = .ok (.iload_n 2, 1) := by decide +kernel
theorem dX3_answerTo_41 : decode cX3_answerTo 41 = .ok (.iaload, 1) := by decide +kernel
theorem dX3_answerTo_42 : decode cX3_answerTo 42 = .ok (.invokevirtual 71, 3) := by decide +kernel
theorem dX3_answerTo_45 : decode cX3_answerTo 45 = .ok (.aload_n 0, 1) := by decide +kernel
theorem dX3_answerTo_46 : decode cX3_answerTo 46 = .ok (.iconst 3, 1) := by decide +kernel
theorem dX3_answerTo_47 : decode cX3_answerTo 47 = .ok (.bipush 99, 2) := by decide +kernel
theorem dX3_answerTo_49 : decode cX3_answerTo 49 = .ok (.invokevirtual 60, 3) := by decide +kernel
theorem dX3_answerTo_52 : decode cX3_answerTo 52 = .ok (.istore 4, 2) := by decide +kernel
theorem dX3_answerTo_54 : decode cX3_answerTo 54 = .ok (.iload 4, 2) := by decide +kernel
theorem dX3_answerTo_56 : decode cX3_answerTo 56 = .ok (.ldc 49, 2) := by decide +kernel
theorem dX3_answerTo_58 : decode cX3_answerTo 58 = .ok (.if_icmp .ne 8, 3) := by decide +kernel
theorem dX3_answerTo_61 : decode cX3_answerTo 61 = .ok (.ldc 49, 2) := by decide +kernel
theorem dX3_answerTo_63 : decode cX3_answerTo 63 = .ok (.goto 7, 3) := by decide +kernel
theorem dX3_answerTo_66 : decode cX3_answerTo 66 = .ok (.iload_n 3, 1) := by decide +kernel
theorem dX3_answerTo_67 : decode cX3_answerTo 67 = .ok (.iload 4, 2) := by decide +kernel
theorem dX3_answerTo_69 : decode cX3_answerTo 69 = .ok (.iadd, 1) := by decide +kernel
theorem dX3_answerTo_70 : decode cX3_answerTo 70 = .ok (.ireturn, 1) := by decide +kernel
theorem dX3_hear_0 : decode cX3_hear 0 = .ok (.aload_n 0, 1) := by decide +kernel
theorem dX3_hear_1 : decode cX3_hear 1 = .ok (.iload 4, 2) := by decide +kernel
theorem dX3_hear_3 : decode cX3_hear 3 = .ok (.bipush 12, 2) := by decide +kernel
theorem dX3_hear_5 : decode cX3_hear 5 = .ok (.invokestatic 109, 3) := by decide +kernel
theorem dX3_hear_8 : decode cX3_hear 8 = .ok (.putfield 114, 3) := by decide +kernel
theorem dX3_hear_11 : decode cX3_hear 11 = .ok (.iconst 0, 1) := by decide +kernel
theorem dX3_hear_12 : decode cX3_hear 12 = .ok (.istore 5, 2) := by decide +kernel
theorem dX3_hear_14 : decode cX3_hear 14 = .ok (.iload 5, 2) := by decide +kernel
theorem dX3_hear_16 : decode cX3_hear 16 = .ok (.aload_n 0, 1) := by decide +kernel
theorem dX3_hear_17 : decode cX3_hear 17 = .ok (.getfield 114, 3) := by decide +kernel
theorem dX3_hear_20 : decode cX3_hear 20 = .ok (.if_icmp .ge 25, 3) := by decide +kernel
theorem dX3_hear_23 : decode cX3_hear 23 = .ok (.aload_n 0, 1) := by decide +kernel
theorem dX3_hear_24 : decode cX3_hear 24 = .ok (.getfield 25, 3) := by decide +kernel
theorem dX3_hear_27 : decode cX3_hear 27 = .ok (.iload 5, 2) := by decide +kernel
theorem dX3_hear_29 : decode cX3_hear 29 = .ok (.aload_n 1, 1) := by decide +kernel
theorem dX3_hear_30 : decode cX3_hear 30 = .ok (.iload_n 2, 1) := by decide +kernel
theorem dX3_hear_31 : decode cX3_hear 31 = .ok (.iload_n 3, 1) := by decide +kernel
theorem dX3_hear_32 : decode cX3_hear 32 = .ok (.iload 5, 2) := by decide +kernel
theorem dX3_hear_34 : decode cX3_hear 34 = .ok (.iadd, 1) := by decide +kernel
theorem dX3_hear_35 : decode cX3_hear 35 = .ok (.invokevirtual 117, 3) := by decide +kernel
theorem dX3_hear_38 : decode cX3_hear 38 = .ok (.iastore, 1) := by decide +kernel
theorem dX3_hear_39 : decode cX3_hear 39 = .ok (.iinc 5 1, 3) := by decide +kernel
theorem dX3_hear_42 : decode cX3_hear 42 = .ok (.goto (-28), 3) := by decide +kernel
theorem dX3_hear_45 : decode cX3_hear 45 = .ok (.return_, 1) := by decide +kernel
theorem dX3_fits_0 : decode cX3_fits 0 = .ok (.iconst 0, 1) := by decide +kernel
theorem dX3_fits_1 : decode cX3_fits 1 = .ok (.istore_n 2, 1) := by decide +kernel
theorem dX3_fits_2 : decode cX3_fits 2 = .ok (.iload_n 2, 1) := by decide +kernel
theorem dX3_fits_3 : decode cX3_fits 3 = .ok (.aload_n 0, 1) := by decide +kernel
theorem dX3_fits_4 : decode cX3_fits 4 = .ok (.getfield 114, 3) := by decide +kernel
theorem dX3_fits_7 : decode cX3_fits 7 = .ok (.if_icmp .ge 40, 3) := by decide +kernel
theorem dX3_fits_10 : decode cX3_fits 10 = .ok (.aload_n 0, 1) := by decide +kernel
theorem dX3_fits_11 : decode cX3_fits 11 = .ok (.getfield 28, 3) := by decide +kernel
theorem dX3_fits_14 : decode cX3_fits 14 = .ok (.aload_n 0, 1) := by decide +kernel
theorem dX3_fits_15 : decode cX3_fits 15 = .ok (.getfield 12, 3) := by decide +kernel
theorem dX3_fits_18 : decode cX3_fits 18 = .ok (.invokevirtual 46, 3) := by decide +kernel
theorem dX3_fits_21 : decode cX3_fits 21 = .ok (.aload_n 0, 1) := by decide +kernel
theorem dX3_fits_22 : decode cX3_fits 22 = .ok (.getfield 12, 3) := by decide +kernel
theorem dX3_fits_25 : decode cX3_fits 25 = .ok (.getfield 57, 3) := by decide +kernel
theorem dX3_fits_28 : decode cX3_fits 28 = .ok (.iload_n 1, 1) := by decide +kernel
theorem dX3_fits_29 : decode cX3_fits 29 = .ok (.iaload, 1) := by decide +kernel
theorem dX3_fits_30 : decode cX3_fits 30 = .ok (.aload_n 0, 1) := by decide +kernel
theorem dX3_fits_31 : decode cX3_fits 31 = .ok (.getfield 25, 3) := by decide +kernel
theorem dX3_fits_34 : decode cX3_fits 34 = .ok (.iload_n 2, 1) := by decide +kernel
theorem dX3_fits_35 : decode cX3_fits 35 = .ok (.iaload, 1) := by decide +kernel
theorem dX3_fits_36 : decode cX3_fits 36 = .ok (.if_icmp .eq 5, 3) := by decide +kernel
theorem dX3_fits_39 : decode cX3_fits 39 = .ok (.iconst 0, 1) := by decide +kernel
theorem dX3_fits_40 : decode cX3_fits 40 = .ok (.ireturn, 1) := by decide +kernel
theorem dX3_fits_41 : decode cX3_fits 41 = .ok (.iinc 2 1, 3) := by decide +kernel
theorem dX3_fits_44 : decode cX3_fits 44 = .ok (.goto (-42), 3) := by decide +kernel
theorem dX3_fits_47 : decode cX3_fits 47 = .ok (.iconst 1, 1) := by decide +kernel
theorem dX3_fits_48 : decode cX3_fits 48 = .ok (.ireturn, 1) := by decide +kernel
theorem dX3_kindsThatFit_0 : decode cX3_kindsThatFit 0 = .ok (.iconst 0, 1) := by decide +kernel
theorem dX3_kindsThatFit_1 : decode cX3_kindsThatFit 1 = .ok (.istore 4, 2) := by decide +kernel
theorem dX3_kindsThatFit_3 : decode cX3_kindsThatFit 3 = .ok (.aload_n 0, 1) := by decide +kernel
theorem dX3_kindsThatFit_4 : decode cX3_kindsThatFit 4 = .ok (.getfield 12, 3) := by decide +kernel
theorem dX3_kindsThatFit_7 : decode cX3_kindsThatFit 7 = .ok (.aload_n 1, 1) := by decide +kernel
theorem dX3_kindsThatFit_8 : decode cX3_kindsThatFit 8 = .ok (.invokevirtual 32, 3) := by decide +kernel
theorem dX3_kindsThatFit_11 : decode cX3_kindsThatFit 11 = .ok (.iconst 1, 1) := by decide +kernel
theorem dX3_kindsThatFit_12 : decode cX3_kindsThatFit 12 = .ok (.istore 5, 2) := by decide +kernel
theorem dX3_kindsThatFit_14 : decode cX3_kindsThatFit 14 = .ok (.iload 5, 2) := by decide +kernel
theorem dX3_kindsThatFit_16 : decode cX3_kindsThatFit 16 = .ok (.iconst 5, 1) := by decide +kernel
theorem dX3_kindsThatFit_17 : decode cX3_kindsThatFit 17 = .ok (.if_icmp .gt 64, 3) := by decide +kernel
theorem dX3_kindsThatFit_20 : decode cX3_kindsThatFit 20 = .ok (.aload_n 0, 1) := by decide +kernel
theorem dX3_kindsThatFit_21 : decode cX3_kindsThatFit 21 = .ok (.getfield 12, 3) := by decide +kernel
theorem dX3_kindsThatFit_24 : decode cX3_kindsThatFit 24 = .ok (.aload_n 1, 1) := by decide +kernel
theorem dX3_kindsThatFit_25 : decode cX3_kindsThatFit 25 = .ok (.invokevirtual 68, 3) := by decide +kernel
theorem dX3_kindsThatFit_28 : decode cX3_kindsThatFit 28 = .ok (.aload_n 0, 1) := by decide +kernel
theorem dX3_kindsThatFit_29 : decode cX3_kindsThatFit 29 = .ok (.getfield 12, 3) := by decide +kernel
theorem dX3_kindsThatFit_32 : decode cX3_kindsThatFit 32 = .ok (.getfield 122, 3) := by decide +kernel
theorem dX3_kindsThatFit_35 : decode cX3_kindsThatFit 35 = .ok (.iload_n 2, 1) := by decide +kernel
theorem dX3_kindsThatFit_36 : decode cX3_kindsThatFit 36 = .ok (.iload 5, 2) := by decide +kernel
theorem dX3_kindsThatFit_38 : decode cX3_kindsThatFit 38 = .ok (.iastore, 1) := by decide +kernel
theorem dX3_kindsThatFit_39 : decode cX3_kindsThatFit 39 = .ok (.aload_n 0, 1) := by decide +kernel
theorem dX3_kindsThatFit_40 : decode cX3_kindsThatFit 40 = .ok (.getfield 28, 3) := by decide +kernel
theorem dX3_kindsThatFit_43 : decode cX3_kindsThatFit 43 = .ok (.aload_n 0, 1) := by decide +kernel
theorem dX3_kindsThatFit_44 : decode cX3_kindsThatFit 44 = .ok (.getfield 12, 3) := by decide +kernel
theorem dX3_kindsThatFit_47 : decode cX3_kindsThatFit 47 = .ok (.aload_n 0, 1) := by decide +kernel
theorem dX3_kindsThatFit_48 : decode cX3_kindsThatFit 48 = .ok (.getfield 114, 3) := by decide +kernel
theorem dX3_kindsThatFit_51 : decode cX3_kindsThatFit 51 = .ok (.invokevirtual 36, 3) := by decide +kernel
theorem dX3_kindsThatFit_54 : decode cX3_kindsThatFit 54 = .ok (.iload 4, 2) := by decide +kernel
theorem dX3_kindsThatFit_56 : decode cX3_kindsThatFit 56 = .ok (.aload_n 0, 1) := by decide +kernel
theorem dX3_kindsThatFit_57 : decode cX3_kindsThatFit 57 = .ok (.iload_n 3, 1) := by decide +kernel
theorem dX3_kindsThatFit_58 : decode cX3_kindsThatFit 58 = .ok (.invokevirtual 125, 3) := by decide +kernel
theorem dX3_kindsThatFit_61 : decode cX3_kindsThatFit 61 = .ok (.ifCond .eq 10, 3) := by decide +kernel
theorem dX3_kindsThatFit_64 : decode cX3_kindsThatFit 64 = .ok (.iconst 1, 1) := by decide +kernel
theorem dX3_kindsThatFit_65 : decode cX3_kindsThatFit 65 = .ok (.iload 5, 2) := by decide +kernel
theorem dX3_kindsThatFit_67 : decode cX3_kindsThatFit 67 = .ok (.ishl, 1) := by decide +kernel
theorem dX3_kindsThatFit_68 : decode cX3_kindsThatFit 68 = .ok (.goto 4, 3) := by decide +kernel
theorem dX3_kindsThatFit_71 : decode cX3_kindsThatFit 71 = .ok (.iconst 0, 1) := by decide +kernel
theorem dX3_kindsThatFit_72 : decode cX3_kindsThatFit 72 = .ok (.ior, 1) := by decide +kernel
theorem dX3_kindsThatFit_73 : decode cX3_kindsThatFit 73 = .ok (.istore 4, 2) := by decide +kernel
theorem dX3_kindsThatFit_75 : decode cX3_kindsThatFit 75 = .ok (.iinc 5 1, 3) := by decide +kernel
theorem dX3_kindsThatFit_78 : decode cX3_kindsThatFit 78 = .ok (.goto (-64), 3) := by decide +kernel
theorem dX3_kindsThatFit_81 : decode cX3_kindsThatFit 81 = .ok (.iload 4, 2) := by decide +kernel
theorem dX3_kindsThatFit_83 : decode cX3_kindsThatFit 83 = .ok (.ireturn, 1) := by decide +kernel
theorem dX3_beginsThatFit_0 : decode cX3_beginsThatFit 0 = .ok (.iconst 0, 1) := by decide +kernel
theorem dX3_beginsThatFit_1 : decode cX3_beginsThatFit 1 = .ok (.istore 4, 2) := by decide +kernel
theorem dX3_beginsThatFit_3 : decode cX3_beginsThatFit 3 = .ok (.aload_n 0, 1) := by decide +kernel
theorem dX3_beginsThatFit_4 : decode cX3_beginsThatFit 4 = .ok (.getfield 12, 3) := by decide +kernel
theorem dX3_beginsThatFit_7 : decode cX3_beginsThatFit 7 = .ok (.aload_n 1, 1) := by decide +kernel
theorem dX3_beginsThatFit_8 : decode cX3_beginsThatFit 8 = .ok (.invokevirtual 32, 3) := by decide +kernel
theorem dX3_beginsThatFit_11 : decode cX3_beginsThatFit 11 = .ok (.iconst 0, 1) := by decide +kernel
theorem dX3_beginsThatFit_12 : decode cX3_beginsThatFit 12 = .ok (.istore 5, 2) := by decide +kernel
theorem dX3_beginsThatFit_14 : decode cX3_beginsThatFit 14 = .ok (.iload 5, 2) := by decide +kernel
theorem dX3_beginsThatFit_16 : decode cX3_beginsThatFit 16 = .ok (.bipush 23, 2) := by decide +kernel
theorem dX3_beginsThatFit_18 : decode cX3_beginsThatFit 18 = .ok (.if_icmp .gt 64, 3) := by decide +kernel
theorem dX3_beginsThatFit_21 : decode cX3_beginsThatFit 21 = .ok (.aload_n 0, 1) := by decide +kernel
theorem dX3_beginsThatFit_22 : decode cX3_beginsThatFit 22 = .ok (.getfield 12, 3) := by decide +kernel
theorem dX3_beginsThatFit_25 : decode cX3_beginsThatFit 25 = .ok (.aload_n 1, 1) := by decide +kernel
theorem dX3_beginsThatFit_26 : decode cX3_beginsThatFit 26 = .ok (.invokevirtual 68, 3) := by decide +kernel
theorem dX3_beginsThatFit_29 : decode cX3_beginsThatFit 29 = .ok (.aload_n 0, 1) := by decide +kernel
theorem dX3_beginsThatFit_30 : decode cX3_beginsThatFit 30 = .ok (.getfield 12, 3) := by decide +kernel
theorem dX3_beginsThatFit_33 : decode cX3_beginsThatFit 33 = .ok (.getfield 128, 3) := by decide +kernel
theorem dX3_beginsThatFit_36 : decode cX3_beginsThatFit 36 = .ok (.iload_n 2, 1) := by decide +kernel
theorem dX3_beginsThatFit_37 : decode cX3_beginsThatFit 37 = .ok (.iload 5, 2) := by decide +kernel
theorem dX3_beginsThatFit_39 : decode cX3_beginsThatFit 39 = .ok (.iastore, 1) := by decide +kernel
theorem dX3_beginsThatFit_40 : decode cX3_beginsThatFit 40 = .ok (.aload_n 0, 1) := by decide +kernel
theorem dX3_beginsThatFit_41 : decode cX3_beginsThatFit 41 = .ok (.getfield 28, 3) := by decide +kernel
theorem dX3_beginsThatFit_44 : decode cX3_beginsThatFit 44 = .ok (.aload_n 0, 1) := by decide +kernel
theorem dX3_beginsThatFit_45 : decode cX3_beginsThatFit 45 = .ok (.getfield 12, 3) := by decide +kernel
theorem dX3_beginsThatFit_48 : decode cX3_beginsThatFit 48 = .ok (.aload_n 0, 1) := by decide +kernel
theorem dX3_beginsThatFit_49 : decode cX3_beginsThatFit 49 = .ok (.getfield 114, 3) := by decide +kernel
theorem dX3_beginsThatFit_52 : decode cX3_beginsThatFit 52 = .ok (.invokevirtual 36, 3) := by decide +kernel
theorem dX3_beginsThatFit_55 : decode cX3_beginsThatFit 55 = .ok (.iload 4, 2) := by decide +kernel
theorem dX3_beginsThatFit_57 : decode cX3_beginsThatFit 57 = .ok (.aload_n 0, 1) := by decide +kernel
theorem dX3_beginsThatFit_58 : decode cX3_beginsThatFit 58 = .ok (.iload_n 3, 1) := by decide +kernel
theorem dX3_beginsThatFit_59 : decode cX3_beginsThatFit 59 = .ok (.invokevirtual 125, 3) := by decide +kernel
theorem dX3_beginsThatFit_62 : decode cX3_beginsThatFit 62 = .ok (.ifCond .eq 10, 3) := by decide +kernel
theorem dX3_beginsThatFit_65 : decode cX3_beginsThatFit 65 = .ok (.iconst 1, 1) := by decide +kernel
theorem dX3_beginsThatFit_66 : decode cX3_beginsThatFit 66 = .ok (.iload 5, 2) := by decide +kernel
theorem dX3_beginsThatFit_68 : decode cX3_beginsThatFit 68 = .ok (.ishl, 1) := by decide +kernel
theorem dX3_beginsThatFit_69 : decode cX3_beginsThatFit 69 = .ok (.goto 4, 3) := by decide +kernel
theorem dX3_beginsThatFit_72 : decode cX3_beginsThatFit 72 = .ok (.iconst 0, 1) := by decide +kernel
theorem dX3_beginsThatFit_73 : decode cX3_beginsThatFit 73 = .ok (.ior, 1) := by decide +kernel
theorem dX3_beginsThatFit_74 : decode cX3_beginsThatFit 74 = .ok (.istore 4, 2) := by decide +kernel
theorem dX3_beginsThatFit_76 : decode cX3_beginsThatFit 76 = .ok (.iinc 5 1, 3) := by decide +kernel
theorem dX3_beginsThatFit_79 : decode cX3_beginsThatFit 79 = .ok (.goto (-65), 3) := by decide +kernel
theorem dX3_beginsThatFit_82 : decode cX3_beginsThatFit 82 = .ok (.iload 4, 2) := by decide +kernel
theorem dX3_beginsThatFit_84 : decode cX3_beginsThatFit 84 = .ok (.ireturn, 1) := by decide +kernel
theorem dX3_absentThatFit_0 : decode cX3_absentThatFit 0 = .ok (.aload_n 0, 1) := by decide +kernel
theorem dX3_absentThatFit_1 : decode cX3_absentThatFit 1 = .ok (.aload_n 1, 1) := by decide +kernel
theorem dX3_absentThatFit_2 : decode cX3_absentThatFit 2 = .ok (.aload_n 0, 1) := by decide +kernel
theorem dX3_absentThatFit_3 : decode cX3_absentThatFit 3 = .ok (.getfield 114, 3) := by decide +kernel
theorem dX3_absentThatFit_6 : decode cX3_absentThatFit 6 = .ok (.invokevirtual 50, 3) := by decide +kernel
theorem dX3_absentThatFit_9 : decode cX3_absentThatFit 9 = .ok (.aload_n 0, 1) := by decide +kernel
theorem dX3_absentThatFit_10 : decode cX3_absentThatFit 10 = .ok (.iload_n 2, 1) := by decide +kernel
theorem dX3_absentThatFit_11 : decode cX3_absentThatFit 11 = .ok (.invokevirtual 125, 3) := by decide +kernel
theorem dX3_absentThatFit_14 : decode cX3_absentThatFit 14 = .ok (.ifCond .eq 8, 3) := by decide +kernel
theorem dX3_absentThatFit_17 : decode cX3_absentThatFit 17 = .ok (.bipush 64, 2) := by decide +kernel
theorem dX3_absentThatFit_19 : decode cX3_absentThatFit 19 = .ok (.goto 4, 3) := by decide +kernel
theorem dX3_absentThatFit_22 : decode cX3_absentThatFit 22 = .ok (.iconst 0, 1) := by decide +kernel
theorem dX3_absentThatFit_23 : decode cX3_absentThatFit 23 = .ok (.istore_n 3, 1) := by decide +kernel
theorem dX3_absentThatFit_24 : decode cX3_absentThatFit 24 = .ok (.iconst 0, 1) := by decide +kernel
theorem dX3_absentThatFit_25 : decode cX3_absentThatFit 25 = .ok (.istore 4, 2) := by decide +kernel
theorem dX3_absentThatFit_27 : decode cX3_absentThatFit 27 = .ok (.iload 4, 2) := by decide +kernel
theorem dX3_absentThatFit_29 : decode cX3_absentThatFit 29 = .ok (.aload_n 1, 1) := by decide +kernel
theorem dX3_absentThatFit_30 : decode cX3_absentThatFit 30 = .ok (.getfield 97, 3) := by decide +kernel
theorem dX3_absentThatFit_33 : decode cX3_absentThatFit 33 = .ok (.if_icmp .ge 57, 3) := by decide +kernel
theorem dX3_absentThatFit_36 : decode cX3_absentThatFit 36 = .ok (.aload_n 0, 1) := by decide +kernel
theorem dX3_absentThatFit_37 : decode cX3_absentThatFit 37 = .ok (.getfield 12, 3) := by decide +kernel
theorem dX3_absentThatFit_40 : decode cX3_absentThatFit 40 = .ok (.aload_n 1, 1) := by decide +kernel
theorem dX3_absentThatFit_41 : decode cX3_absentThatFit 41 = .ok (.invokevirtual 68, 3) := by decide +kernel
theorem dX3_absentThatFit_44 : decode cX3_absentThatFit 44 = .ok (.aload_n 0, 1) := by decide +kernel
theorem dX3_absentThatFit_45 : decode cX3_absentThatFit 45 = .ok (.getfield 12, 3) := by decide +kernel
theorem dX3_absentThatFit_48 : decode cX3_absentThatFit 48 = .ok (.aload_n 1, 1) := by decide +kernel
theorem dX3_absentThatFit_49 : decode cX3_absentThatFit 49 = .ok (.getfield 82, 3) := by decide +kernel
theorem dX3_absentThatFit_52 : decode cX3_absentThatFit 52 = .ok (.iconst 1, 1) := by decide +kernel
theorem dX3_absentThatFit_53 : decode cX3_absentThatFit 53 = .ok (.iload 4, 2) := by decide +kernel
theorem dX3_absentThatFit_55 : decode cX3_absentThatFit 55 = .ok (.ishl, 1) := by decide +kernel
theorem dX3_absentThatFit_56 : decode cX3_absentThatFit 56 = .ok (.ior, 1) := by decide +kernel
theorem dX3_absentThatFit_57 : decode cX3_absentThatFit 57 = .ok (.putfield 82, 3) := by decide +kernel
theorem dX3_absentThatFit_60 : decode cX3_absentThatFit 60 = .ok (.aload_n 1, 1) := by decide +kernel
theorem dX3_absentThatFit_61 : decode cX3_absentThatFit 61 = .ok (.iload 4, 2) := by decide +kernel
theorem dX3_absentThatFit_63 : decode cX3_absentThatFit 63 = .ok (.invokevirtual 100, 3) := by decide +kernel
theorem dX3_absentThatFit_66 : decode cX3_absentThatFit 66 = .ok (.ifCond .ne 18, 3) := by decide +kernel
theorem dX3_absentThatFit_69 : decode cX3_absentThatFit 69 = .ok (.aload_n 0, 1) := by decide +kernel
theorem dX3_absentThatFit_70 : decode cX3_absentThatFit 70 = .ok (.iload_n 2, 1) := by decide +kernel
theorem dX3_absentThatFit_71 : decode cX3_absentThatFit 71 = .ok (.invokevirtual 125, 3) := by decide +kernel
theorem dX3_absentThatFit_74 : decode cX3_absentThatFit 74 = .ok (.ifCond .eq 10, 3) := by decide +kernel
theorem dX3_absentThatFit_77 : decode cX3_absentThatFit 77 = .ok (.iload_n 3, 1) := by decide +kernel
theorem dX3_absentThatFit_78 : decode cX3_absentThatFit 78 = .ok (.iconst 1, 1) := by decide +kernel
theorem dX3_absentThatFit_79 : decode cX3_absentThatFit 79 = .ok (.iload 4, 2) := by decide +kernel
theorem dX3_absentThatFit_81 : decode cX3_absentThatFit 81 = .ok (.ishl, 1) := by decide +kernel
theorem dX3_absentThatFit_82 : decode cX3_absentThatFit 82 = .ok (.ior, 1) := by decide +kernel
theorem dX3_absentThatFit_83 : decode cX3_absentThatFit 83 = .ok (.istore_n 3, 1) := by decide +kernel
theorem dX3_absentThatFit_84 : decode cX3_absentThatFit 84 = .ok (.iinc 4 1, 3) := by decide +kernel
theorem dX3_absentThatFit_87 : decode cX3_absentThatFit 87 = .ok (.goto (-60), 3) := by decide +kernel
theorem dX3_absentThatFit_90 : decode cX3_absentThatFit 90 = .ok (.iload_n 3, 1) := by decide +kernel
theorem dX3_absentThatFit_91 : decode cX3_absentThatFit 91 = .ok (.ireturn, 1) := by decide +kernel
theorem dX3_goalsThatFit_0 : decode cX3_goalsThatFit 0 = .ok (.aload_n 0, 1) := by decide +kernel
theorem dX3_goalsThatFit_1 : decode cX3_goalsThatFit 1 = .ok (.aload_n 1, 1) := by decide +kernel
theorem dX3_goalsThatFit_2 : decode cX3_goalsThatFit 2 = .ok (.aload_n 0, 1) := by decide +kernel
theorem dX3_goalsThatFit_3 : decode cX3_goalsThatFit 3 = .ok (.getfield 114, 3) := by decide +kernel
theorem dX3_goalsThatFit_6 : decode cX3_goalsThatFit 6 = .ok (.invokevirtual 50, 3) := by decide +kernel
theorem dX3_goalsThatFit_9 : decode cX3_goalsThatFit 9 = .ok (.iconst 0, 1) := by decide +kernel
theorem dX3_goalsThatFit_10 : decode cX3_goalsThatFit 10 = .ok (.istore_n 3, 1) := by decide +kernel
theorem dX3_goalsThatFit_11 : decode cX3_goalsThatFit 11 = .ok (.iconst 0, 1) := by decide +kernel
theorem dX3_goalsThatFit_12 : decode cX3_goalsThatFit 12 = .ok (.istore 4, 2) := by decide +kernel
theorem dX3_goalsThatFit_14 : decode cX3_goalsThatFit 14 = .ok (.iload 4, 2) := by decide +kernel
theorem dX3_goalsThatFit_16 : decode cX3_goalsThatFit 16 = .ok (.aload_n 1, 1) := by decide +kernel
theorem dX3_goalsThatFit_17 : decode cX3_goalsThatFit 17 = .ok (.getfield 75, 3) := by decide +kernel
theorem dX3_goalsThatFit_20 : decode cX3_goalsThatFit 20 = .ok (.if_icmp .ge 47, 3) := by decide +kernel
theorem dX3_goalsThatFit_23 : decode cX3_goalsThatFit 23 = .ok (.aload_n 0, 1) := by decide +kernel
theorem dX3_goalsThatFit_24 : decode cX3_goalsThatFit 24 = .ok (.getfield 12, 3) := by decide +kernel
theorem dX3_goalsThatFit_27 : decode cX3_goalsThatFit 27 = .ok (.aload_n 1, 1) := by decide +kernel
theorem dX3_goalsThatFit_28 : decode cX3_goalsThatFit 28 = .ok (.invokevirtual 68, 3) := by decide +kernel
theorem dX3_goalsThatFit_31 : decode cX3_goalsThatFit 31 = .ok (.aload_n 0, 1) := by decide +kernel
theorem dX3_goalsThatFit_32 : decode cX3_goalsThatFit 32 = .ok (.getfield 12, 3) := by decide +kernel
theorem dX3_goalsThatFit_35 : decode cX3_goalsThatFit 35 = .ok (.getfield 106, 3) := by decide +kernel
theorem dX3_goalsThatFit_38 : decode cX3_goalsThatFit 38 = .ok (.iload_n 2, 1) := by decide +kernel
theorem dX3_goalsThatFit_39 : decode cX3_goalsThatFit 39 = .ok (.iload 4, 2) := by decide +kernel
theorem dX3_goalsThatFit_41 : decode cX3_goalsThatFit 41 = .ok (.iastore, 1) := by decide +kernel
theorem dX3_goalsThatFit_42 : decode cX3_goalsThatFit 42 = .ok (.iload_n 3, 1) := by decide +kernel
theorem dX3_goalsThatFit_43 : decode cX3_goalsThatFit 43 = .ok (.aload_n 0, 1) := by decide +kernel
theorem dX3_goalsThatFit_44 : decode cX3_goalsThatFit 44 = .ok (.iload_n 2, 1) := by decide +kernel
theorem dX3_goalsThatFit_45 : decode cX3_goalsThatFit 45 = .ok (.invokevirtual 125, 3) := by decide +kernel
theorem dX3_goalsThatFit_48 : decode cX3_goalsThatFit 48 = .ok (.ifCond .eq 10, 3) := by decide +kernel
theorem dX3_goalsThatFit_51 : decode cX3_goalsThatFit 51 = .ok (.iconst 1, 1) := by decide +kernel
theorem dX3_goalsThatFit_52 : decode cX3_goalsThatFit 52 = .ok (.iload 4, 2) := by decide +kernel
theorem dX3_goalsThatFit_54 : decode cX3_goalsThatFit 54 = .ok (.ishl, 1) := by decide +kernel
theorem dX3_goalsThatFit_55 : decode cX3_goalsThatFit 55 = .ok (.goto 4, 3) := by decide +kernel
theorem dX3_goalsThatFit_58 : decode cX3_goalsThatFit 58 = .ok (.iconst 0, 1) := by decide +kernel
theorem dX3_goalsThatFit_59 : decode cX3_goalsThatFit 59 = .ok (.ior, 1) := by decide +kernel
theorem dX3_goalsThatFit_60 : decode cX3_goalsThatFit 60 = .ok (.istore_n 3, 1) := by decide +kernel
theorem dX3_goalsThatFit_61 : decode cX3_goalsThatFit 61 = .ok (.iinc 4 1, 3) := by decide +kernel
theorem dX3_goalsThatFit_64 : decode cX3_goalsThatFit 64 = .ok (.goto (-50), 3) := by decide +kernel
theorem dX3_goalsThatFit_67 : decode cX3_goalsThatFit 67 = .ok (.iload_n 3, 1) := by decide +kernel
theorem dX3_goalsThatFit_68 : decode cX3_goalsThatFit 68 = .ok (.ireturn, 1) := by decide +kernel
theorem dX3_busiest_0 : decode cX3_busiest 0 = .ok (.aload_n 0, 1) := by decide +kernel
theorem dX3_busiest_1 : decode cX3_busiest 1 = .ok (.aload_n 1, 1) := by decide +kernel
theorem dX3_busiest_2 : decode cX3_busiest 2 = .ok (.iload_n 2, 1) := by decide +kernel
theorem dX3_busiest_3 : decode cX3_busiest 3 = .ok (.invokevirtual 50, 3) := by decide +kernel
theorem dX3_busiest_6 : decode cX3_busiest 6 = .ok (.iconst 0, 1) := by decide +kernel
theorem dX3_busiest_7 : decode cX3_busiest 7 = .ok (.istore 4, 2) := by decide +kernel
theorem dX3_busiest_9 : decode cX3_busiest 9 = .ok (.iload 4, 2) := by decide +kernel
theorem dX3_busiest_11 : decode cX3_busiest 11 = .ok (.bipush 6, 2) := by decide +kernel
theorem dX3_busiest_13 : decode cX3_busiest 13 = .ok (.if_icmp .ge 17, 3) := by decide +kernel
theorem dX3_busiest_16 : decode cX3_busiest 16 = .ok (.aload_n 0, 1) := by decide +kernel
theorem dX3_busiest_17 : decode cX3_busiest 17 = .ok (.getfield 21, 3) := by decide +kernel
theorem dX3_busiest_20 : decode cX3_busiest 20 = .ok (.iload 4, 2) := by decide +kernel
theorem dX3_busiest_22 : decode cX3_busiest 22 = .ok (.iconst 0, 1) := by decide +kernel
theorem dX3_busiest_23 : decode cX3_busiest 23 = .ok (.iastore, 1) := by decide +kernel
theorem dX3_busiest_24 : decode cX3_busiest 24 = .ok (.iinc 4 1, 3) := by decide +kernel
theorem dX3_busiest_27 : decode cX3_busiest 27 = .ok (.goto (-18), 3) := by decide +kernel
theorem dX3_busiest_30 : decode cX3_busiest 30 = .ok (.iconst 0, 1) := by decide +kernel
theorem dX3_busiest_31 : decode cX3_busiest 31 = .ok (.istore 4, 2) := by decide +kernel
theorem dX3_busiest_33 : decode cX3_busiest 33 = .ok (.iload 4, 2) := by decide +kernel
theorem dX3_busiest_35 : decode cX3_busiest 35 = .ok (.iload_n 2, 1) := by decide +kernel
theorem dX3_busiest_36 : decode cX3_busiest 36 = .ok (.if_icmp .ge 25, 3) := by decide +kernel
theorem dX3_busiest_39 : decode cX3_busiest 39 = .ok (.aload_n 0, 1) := by decide +kernel
theorem dX3_busiest_40 : decode cX3_busiest 40 = .ok (.getfield 28, 3) := by decide +kernel
theorem dX3_busiest_43 : decode cX3_busiest 43 = .ok (.aload_n 0, 1) := by decide +kernel
theorem dX3_busiest_44 : decode cX3_busiest 44 = .ok (.getfield 12, 3) := by decide +kernel
theorem dX3_busiest_47 : decode cX3_busiest 47 = .ok (.invokevirtual 46, 3) := by decide +kernel
theorem dX3_busiest_50 : decode cX3_busiest 50 = .ok (.aload_n 0, 1) := by decide +kernel
theorem dX3_busiest_51 : decode cX3_busiest 51 = .ok (.invokevirtual 131, 3) := by decide +kernel
theorem dX3_busiest_54 : decode cX3_busiest 54 = .ok (.pop, 1) := by decide +kernel
theorem dX3_busiest_55 : decode cX3_busiest 55 = .ok (.iinc 4 1, 3) := by decide +kernel
theorem dX3_busiest_58 : decode cX3_busiest 58 = .ok (.goto (-25), 3) := by decide +kernel
theorem dX3_busiest_61 : decode cX3_busiest 61 = .ok (.iconst 0, 1) := by decide +kernel
theorem dX3_busiest_62 : decode cX3_busiest 62 = .ok (.istore 4, 2) := by decide +kernel
theorem dX3_busiest_64 : decode cX3_busiest 64 = .ok (.iconst 1, 1) := by decide +kernel
theorem dX3_busiest_65 : decode cX3_busiest 65 = .ok (.istore 5, 2) := by decide +kernel
theorem dX3_busiest_67 : decode cX3_busiest 67 = .ok (.iload 5, 2) := by decide +kernel
theorem dX3_busiest_69 : decode cX3_busiest 69 = .ok (.aload_n 1, 1) := by decide +kernel
theorem dX3_busiest_70 : decode cX3_busiest 70 = .ok (.getfield 97, 3) := by decide +kernel
theorem dX3_busiest_73 : decode cX3_busiest 73 = .ok (.if_icmp .ge 35, 3) := by decide +kernel
theorem dX3_busiest_76 : decode cX3_busiest 76 = .ok (.aload_n 0, 1) := by decide +kernel
theorem dX3_busiest_77 : decode cX3_busiest 77 = .ok (.getfield 21, 3) := by decide +kernel
theorem dX3_busiest_80 : decode cX3_busiest 80 = .ok (.iload 5, 2) := by decide +kernel
theorem dX3_busiest_82 : decode cX3_busiest 82 = .ok (.iaload, 1) := by decide +kernel
theorem dX3_busiest_83 : decode cX3_busiest 83 = .ok (.aload_n 0, 1) := by decide +kernel
theorem dX3_busiest_84 : decode cX3_busiest 84 = .ok (.getfield 21, 3) := by decide +kernel
theorem dX3_busiest_87 : decode cX3_busiest 87 = .ok (.iload 4, 2) := by decide +kernel
theorem dX3_busiest_89 : decode cX3_busiest 89 = .ok (.iaload, 1) := by decide +kernel
theorem dX3_busiest_90 : decode cX3_busiest 90 = .ok (.if_icmp .le 8, 3) := by decide +kernel
theorem dX3_busiest_93 : decode cX3_busiest 93 = .ok (.iload 5, 2) := by decide +kernel
theorem dX3_busiest_95 : decode cX3_busiest 95 = .ok (.goto 5, 3) := by decide +kernel
theorem dX3_busiest_98 : decode cX3_busiest 98 = .ok (.iload 4, 2) := by decide +kernel
theorem dX3_busiest_100 : decode cX3_busiest 100 = .ok (.istore 4, 2) := by decide +kernel
theorem dX3_busiest_102 : decode cX3_busiest 102 = .ok (.iinc 5 1, 3) := by decide +kernel
theorem dX3_busiest_105 : decode cX3_busiest 105 = .ok (.goto (-38), 3) := by decide +kernel
theorem dX3_busiest_108 : decode cX3_busiest 108 = .ok (.iload_n 3, 1) := by decide +kernel
theorem dX3_busiest_109 : decode cX3_busiest 109 = .ok (.ifCond .ne 8, 3) := by decide +kernel
theorem dX3_busiest_112 : decode cX3_busiest 112 = .ok (.iload 4, 2) := by decide +kernel
theorem dX3_busiest_114 : decode cX3_busiest 114 = .ok (.goto 10, 3) := by decide +kernel
theorem dX3_busiest_117 : decode cX3_busiest 117 = .ok (.aload_n 0, 1) := by decide +kernel
theorem dX3_busiest_118 : decode cX3_busiest 118 = .ok (.getfield 21, 3) := by decide +kernel
theorem dX3_busiest_121 : decode cX3_busiest 121 = .ok (.iload 4, 2) := by decide +kernel
theorem dX3_busiest_123 : decode cX3_busiest 123 = .ok (.iaload, 1) := by decide +kernel
theorem dX3_busiest_124 : decode cX3_busiest 124 = .ok (.ireturn, 1) := by decide +kernel
theorem dX3_tally_0 : decode cX3_tally 0 = .ok (.iconst 0, 1) := by decide +kernel
theorem dX3_tally_1 : decode cX3_tally 1 = .ok (.istore_n 1, 1) := by decide +kernel
theorem dX3_tally_2 : decode cX3_tally 2 = .ok (.iconst 0, 1) := by decide +kernel
theorem dX3_tally_3 : decode cX3_tally 3 = .ok (.istore_n 2, 1) := by decide +kernel
theorem dX3_tally_4 : decode cX3_tally 4 = .ok (.iload_n 2, 1) := by decide +kernel
theorem dX3_tally_5 : decode cX3_tally 5 = .ok (.iconst 4, 1) := by decide +kernel
theorem dX3_tally_6 : decode cX3_tally 6 = .ok (.if_icmp .ge 37, 3) := by decide +kernel
theorem dX3_tally_9 : decode cX3_tally 9 = .ok (.aload_n 0, 1) := by decide +kernel
theorem dX3_tally_10 : decode cX3_tally 10 = .ok (.getfield 28, 3) := by decide +kernel
theorem dX3_tally_13 : decode cX3_tally 13 = .ok (.iload_n 2, 1) := by decide +kernel
theorem dX3_tally_14 : decode cX3_tally 14 = .ok (.invokevirtual 53, 3) := by decide +kernel
theorem dX3_tally_17 : decode cX3_tally 17 = .ok (.istore_n 3, 1) := by decide +kernel
theorem dX3_tally_18 : decode cX3_tally 18 = .ok (.iload_n 3, 1) := by decide +kernel
theorem dX3_tally_19 : decode cX3_tally 19 = .ok (.ldc 49, 2) := by decide +kernel
theorem dX3_tally_21 : decode cX3_tally 21 = .ok (.if_icmp .eq 16, 3) := by decide +kernel
theorem dX3_tally_24 : decode cX3_tally 24 = .ok (.aload_n 0, 1) := by decide +kernel
theorem dX3_tally_25 : decode cX3_tally 25 = .ok (.getfield 21, 3) := by decide +kernel
theorem dX3_tally_28 : decode cX3_tally 28 = .ok (.iload_n 3, 1) := by decide +kernel
theorem dX3_tally_29 : decode cX3_tally 29 = .ok (.dup2, 1) := by decide +kernel
theorem dX3_tally_30 : decode cX3_tally 30 = .ok (.iaload, 1) := by decide +kernel
theorem dX3_tally_31 : decode cX3_tally 31 = .ok (.iconst 1, 1) := by decide +kernel
theorem dX3_tally_32 : decode cX3_tally 32 = .ok (.iadd, 1) := by decide +kernel
theorem dX3_tally_33 : decode cX3_tally 33 = .ok (.iastore, 1) := by decide +kernel
theorem dX3_tally_34 : decode cX3_tally 34 = .ok (.iinc 1 1, 3) := by decide +kernel
theorem dX3_tally_37 : decode cX3_tally 37 = .ok (.iinc 2 1, 3) := by decide +kernel
theorem dX3_tally_40 : decode cX3_tally 40 = .ok (.goto (-36), 3) := by decide +kernel
theorem dX3_tally_43 : decode cX3_tally 43 = .ok (.iload_n 1, 1) := by decide +kernel
theorem dX3_tally_44 : decode cX3_tally 44 = .ok (.ireturn, 1) := by decide +kernel
theorem dX3_likelihood_0 : decode cX3_likelihood 0 = .ok (.aload_n 0, 1) := by decide +kernel
theorem dX3_likelihood_1 : decode cX3_likelihood 1 = .ok (.aload_n 1, 1) := by decide +kernel
theorem dX3_likelihood_2 : decode cX3_likelihood 2 = .ok (.iload_n 3, 1) := by decide +kernel
theorem dX3_likelihood_3 : decode cX3_likelihood 3 = .ok (.invokevirtual 50, 3) := by decide +kernel
theorem dX3_likelihood_6 : decode cX3_likelihood 6 = .ok (.aload_n 1, 1) := by decide +kernel
theorem dX3_likelihood_7 : decode cX3_likelihood 7 = .ok (.invokevirtual 85, 3) := by decide +kernel
theorem dX3_likelihood_10 : decode cX3_likelihood 10 = .ok (.istore 6, 2) := by decide +kernel
theorem dX3_likelihood_12 : decode cX3_likelihood 12 = .ok (.iload 6, 2) := by decide +kernel
theorem dX3_likelihood_14 : decode cX3_likelihood 14 = .ok (.aload_n 1, 1) := by decide +kernel
theorem dX3_likelihood_15 : decode cX3_likelihood 15 = .ok (.getfield 82, 3) := by decide +kernel
theorem dX3_likelihood_18 : decode cX3_likelihood 18 = .ok (.iconst (-1), 1) := by decide +kernel
theorem dX3_likelihood_19 : decode cX3_likelihood 19 = .ok (.ixor, 1) := by decide +kernel
theorem dX3_likelihood_20 : decode cX3_likelihood 20 = .ok (.iand, 1) := by decide +kernel
theorem dX3_likelihood_21 : decode cX3_likelihood 21 = .ok (.istore 7, 2) := by decide +kernel
theorem dX3_likelihood_23 : decode cX3_likelihood 23 = .ok (.lconst 0, 1) := by decide +kernel
theorem dX3_likelihood_24 : decode cX3_likelihood 24 = .ok (.lstore 8, 2) := by decide +kernel
theorem dX3_likelihood_26 : decode cX3_likelihood 26 = .ok (.iconst 0, 1) := by decide +kernel
theorem dX3_likelihood_27 : decode cX3_likelihood 27 = .ok (.istore 10, 2) := by decide +kernel
theorem dX3_likelihood_29 : decode cX3_likelihood 29 = .ok (.iload 10, 2) := by decide +kernel
theorem dX3_likelihood_31 : decode cX3_likelihood 31 = .ok (.iload 6, 2) := by decide +kernel
theorem dX3_likelihood_33 : decode cX3_likelihood 33 = .ok (.if_icmp .gt 83, 3) := by decide +kernel
theorem dX3_likelihood_36 : decode cX3_likelihood 36 = .ok (.iload 4, 2) := by decide +kernel
theorem dX3_likelihood_38 : decode cX3_likelihood 38 = .ok (.i2l, 1) := by decide +kernel
theorem dX3_likelihood_39 : decode cX3_likelihood 39 = .ok (.iload 10, 2) := by decide +kernel
theorem dX3_likelihood_41 : decode cX3_likelihood 41 = .ok (.invokestatic 89, 3) := by decide +kernel
theorem dX3_likelihood_44 : decode cX3_likelihood 44 = .ok (.invokestatic 134, 3) := by decide +kernel
theorem dX3_likelihood_47 : decode cX3_likelihood 47 = .ok (.bipush 10, 2) := by decide +kernel
theorem dX3_likelihood_49 : decode cX3_likelihood 49 = .ok (.iload 4, 2) := by decide +kernel
theorem dX3_likelihood_51 : decode cX3_likelihood 51 = .ok (.isub, 1) := by decide +kernel
theorem dX3_likelihood_52 : decode cX3_likelihood 52 = .ok (.i2l, 1) := by decide +kernel
theorem dX3_likelihood_53 : decode cX3_likelihood 53 = .ok (.iload 7, 2) := by decide +kernel
theorem dX3_likelihood_55 : decode cX3_likelihood 55 = .ok (.iload 10, 2) := by decide +kernel
theorem dX3_likelihood_57 : decode cX3_likelihood 57 = .ok (.iconst (-1), 1) := by decide +kernel
theorem dX3_likelihood_58 : decode cX3_likelihood 58 = .ok (.ixor, 1) := by decide +kernel
theorem dX3_likelihood_59 : decode cX3_likelihood 59 = .ok (.iand, 1) := by decide +kernel
theorem dX3_likelihood_60 : decode cX3_likelihood 60 = .ok (.invokestatic 89, 3) := by decide +kernel
theorem dX3_likelihood_63 : decode cX3_likelihood 63 = .ok (.invokestatic 134, 3) := by decide +kernel
theorem dX3_likelihood_66 : decode cX3_likelihood 66 = .ok (.lmul, 1) := by decide +kernel
theorem dX3_likelihood_67 : decode cX3_likelihood 67 = .ok (.lstore 11, 2) := by decide +kernel
theorem dX3_likelihood_69 : decode cX3_likelihood 69 = .ok (.iload 10, 2) := by decide +kernel
theorem dX3_likelihood_71 : decode cX3_likelihood 71 = .ok (.iload 7, 2) := by decide +kernel
theorem dX3_likelihood_73 : decode cX3_likelihood 73 = .ok (.iconst (-1), 1) := by decide +kernel
theorem dX3_likelihood_74 : decode cX3_likelihood 74 = .ok (.ixor, 1) := by decide +kernel
theorem dX3_likelihood_75 : decode cX3_likelihood 75 = .ok (.iand, 1) := by decide +kernel
theorem dX3_likelihood_76 : decode cX3_likelihood 76 = .ok (.ifCond .ne 34, 3) := by decide +kernel
theorem dX3_likelihood_79 : decode cX3_likelihood 79 = .ok (.lload 11, 2) := by decide +kernel
theorem dX3_likelihood_81 : decode cX3_likelihood 81 = .ok (.lconst 0, 1) := by decide +kernel
theorem dX3_likelihood_82 : decode cX3_likelihood 82 = .ok (.lcmp, 1) := by decide +kernel
theorem dX3_likelihood_83 : decode cX3_likelihood 83 = .ok (.ifCond .le 27, 3) := by decide +kernel
theorem dX3_likelihood_86 : decode cX3_likelihood 86 = .ok (.aload_n 0, 1) := by decide +kernel
theorem dX3_likelihood_87 : decode cX3_likelihood 87 = .ok (.aload_n 1, 1) := by decide +kernel
theorem dX3_likelihood_88 : decode cX3_likelihood 88 = .ok (.aload_n 1, 1) := by decide +kernel
theorem dX3_likelihood_89 : decode cX3_likelihood 89 = .ok (.getfield 82, 3) := by decide +kernel
theorem dX3_likelihood_92 : decode cX3_likelihood 92 = .ok (.iload 10, 2) := by decide +kernel
theorem dX3_likelihood_94 : decode cX3_likelihood 94 = .ok (.ior, 1) := by decide +kernel
theorem dX3_likelihood_95 : decode cX3_likelihood 95 = .ok (.iload_n 2, 1) := by decide +kernel
theorem dX3_likelihood_96 : decode cX3_likelihood 96 = .ok (.iload_n 3, 1) := by decide +kernel
theorem dX3_likelihood_97 : decode cX3_likelihood 97 = .ok (.invokevirtual 94, 3) := by decide +kernel
theorem dX3_likelihood_100 : decode cX3_likelihood 100 = .ok (.ifCond .eq 10, 3) := by decide +kernel
theorem dX3_likelihood_103 : decode cX3_likelihood 103 = .ok (.lload 8, 2) := by decide +kernel
theorem dX3_likelihood_105 : decode cX3_likelihood 105 = .ok (.lload 11, 2) := by decide +kernel
theorem dX3_likelihood_107 : decode cX3_likelihood 107 = .ok (.ladd, 1) := by decide +kernel
theorem dX3_likelihood_108 : decode cX3_likelihood 108 = .ok (.lstore 8, 2) := by decide +kernel
theorem dX3_likelihood_110 : decode cX3_likelihood 110 = .ok (.iinc 10 1, 3) := by decide +kernel
theorem dX3_likelihood_113 : decode cX3_likelihood 113 = .ok (.goto (-84), 3) := by decide +kernel
theorem dX3_likelihood_116 : decode cX3_likelihood 116 = .ok (.ldc2_w 138, 3) := by decide +kernel
theorem dX3_likelihood_119 : decode cX3_likelihood 119 = .ok (.iload 7, 2) := by decide +kernel
theorem dX3_likelihood_121 : decode cX3_likelihood 121 = .ok (.invokestatic 89, 3) := by decide +kernel
theorem dX3_likelihood_124 : decode cX3_likelihood 124 = .ok (.invokestatic 134, 3) := by decide +kernel
theorem dX3_likelihood_127 : decode cX3_likelihood 127 = .ok (.lstore 10, 2) := by decide +kernel
theorem dX3_likelihood_129 : decode cX3_likelihood 129 = .ok (.lload 8, 2) := by decide +kernel
theorem dX3_likelihood_131 : decode cX3_likelihood 131 = .ok (.lload 10, 2) := by decide +kernel
theorem dX3_likelihood_133 : decode cX3_likelihood 133 = .ok (.invokestatic 140, 3) := by decide +kernel
theorem dX3_likelihood_136 : decode cX3_likelihood 136 = .ok (.lconst 1, 1) := by decide +kernel
theorem dX3_likelihood_137 : decode cX3_likelihood 137 = .ok (.invokestatic 144, 3) := by decide +kernel
theorem dX3_likelihood_140 : decode cX3_likelihood 140 = .ok (.lstore 12, 2) := by decide +kernel
theorem dX3_likelihood_142 : decode cX3_likelihood 142 = .ok (.iload 5, 2) := by decide +kernel
theorem dX3_likelihood_144 : decode cX3_likelihood 144 = .ok (.ifCond .ne 8, 3) := by decide +kernel
theorem dX3_likelihood_147 : decode cX3_likelihood 147 = .ok (.lload 8, 2) := by decide +kernel
theorem dX3_likelihood_149 : decode cX3_likelihood 149 = .ok (.goto 5, 3) := by decide +kernel
theorem dX3_likelihood_152 : decode cX3_likelihood 152 = .ok (.lload 10, 2) := by decide +kernel
theorem dX3_likelihood_154 : decode cX3_likelihood 154 = .ok (.lload 12, 2) := by decide +kernel
theorem dX3_likelihood_156 : decode cX3_likelihood 156 = .ok (.ldiv, 1) := by decide +kernel
theorem dX3_likelihood_157 : decode cX3_likelihood 157 = .ok (.lreturn, 1) := by decide +kernel
theorem dX3_power_0 : decode cX3_power 0 = .ok (.lconst 1, 1) := by decide +kernel
theorem dX3_power_1 : decode cX3_power 1 = .ok (.lstore_n 3, 1) := by decide +kernel
theorem dX3_power_2 : decode cX3_power 2 = .ok (.iconst 0, 1) := by decide +kernel
theorem dX3_power_3 : decode cX3_power 3 = .ok (.istore 5, 2) := by decide +kernel
theorem dX3_power_5 : decode cX3_power 5 = .ok (.iload 5, 2) := by decide +kernel
theorem dX3_power_7 : decode cX3_power 7 = .ok (.iload_n 2, 1) := by decide +kernel
theorem dX3_power_8 : decode cX3_power 8 = .ok (.if_icmp .ge 13, 3) := by decide +kernel
theorem dX3_power_11 : decode cX3_power 11 = .ok (.lload_n 3, 1) := by decide +kernel
theorem dX3_power_12 : decode cX3_power 12 = .ok (.lload_n 0, 1) := by decide +kernel
theorem dX3_power_13 : decode cX3_power 13 = .ok (.lmul, 1) := by decide +kernel
theorem dX3_power_14 : decode cX3_power 14 = .ok (.lstore_n 3, 1) := by decide +kernel
theorem dX3_power_15 : decode cX3_power 15 = .ok (.iinc 5 1, 3) := by decide +kernel
theorem dX3_power_18 : decode cX3_power 18 = .ok (.goto (-13), 3) := by decide +kernel
theorem dX3_power_21 : decode cX3_power 21 = .ok (.lload_n 3, 1) := by decide +kernel
theorem dX3_power_22 : decode cX3_power 22 = .ok (.lreturn, 1) := by decide +kernel
theorem dX3_commonDivisor_0 : decode cX3_commonDivisor 0 = .ok (.lload_n 0, 1) := by decide +kernel
theorem dX3_commonDivisor_1 : decode cX3_commonDivisor 1 = .ok (.lstore 4, 2) := by decide +kernel
theorem dX3_commonDivisor_3 : decode cX3_commonDivisor 3 = .ok (.lload_n 2, 1) := by decide +kernel
theorem dX3_commonDivisor_4 : decode cX3_commonDivisor 4 = .ok (.lstore 6, 2) := by decide +kernel
theorem dX3_commonDivisor_6 : decode cX3_commonDivisor 6 = .ok (.iconst 0, 1) := by decide +kernel
theorem dX3_commonDivisor_7 : decode cX3_commonDivisor 7 = .ok (.istore 8, 2) := by decide +kernel
theorem dX3_commonDivisor_9 : decode cX3_commonDivisor 9 = .ok (.iload 8, 2) := by decide +kernel
theorem dX3_commonDivisor_11 : decode cX3_commonDivisor 11 = .ok (.bipush 64, 2) := by decide +kernel
theorem dX3_commonDivisor_13 : decode cX3_commonDivisor 13 = .ok (.if_icmp .ge 31, 3) := by decide +kernel
theorem dX3_commonDivisor_16 : decode cX3_commonDivisor 16 = .ok (.lload 4, 2) := by decide +kernel
theorem dX3_commonDivisor_18 : decode cX3_commonDivisor 18 = .ok (.lconst 0, 1) := by decide +kernel
theorem dX3_commonDivisor_19 : decode cX3_commonDivisor 19 = .ok (.lcmp, 1) := by decide +kernel
theorem dX3_commonDivisor_20 : decode cX3_commonDivisor 20 = .ok (.ifCond .eq 24, 3) := by decide +kernel
theorem dX3_commonDivisor_23 : decode cX3_commonDivisor 23 = .ok (.lload 6, 2) := by decide +kernel
theorem dX3_commonDivisor_25 : decode cX3_commonDivisor 25 = .ok (.lload 4, 2) := by decide +kernel
theorem dX3_commonDivisor_27 : decode cX3_commonDivisor 27 = .ok (.lrem, 1) := by decide +kernel
theorem dX3_commonDivisor_28 : decode cX3_commonDivisor 28 = .ok (.lstore 9, 2) := by decide +kernel
theorem dX3_commonDivisor_30 : decode cX3_commonDivisor 30 = .ok (.lload 4, 2) := by decide +kernel
theorem dX3_commonDivisor_32 : decode cX3_commonDivisor 32 = .ok (.lstore 6, 2) := by decide +kernel
theorem dX3_commonDivisor_34 : decode cX3_commonDivisor 34 = .ok (.lload 9, 2) := by decide +kernel
theorem dX3_commonDivisor_36 : decode cX3_commonDivisor 36 = .ok (.lstore 4, 2) := by decide +kernel
theorem dX3_commonDivisor_38 : decode cX3_commonDivisor 38 = .ok (.iinc 8 1, 3) := by decide +kernel
theorem dX3_commonDivisor_41 : decode cX3_commonDivisor 41 = .ok (.goto (-32), 3) := by decide +kernel
theorem dX3_commonDivisor_44 : decode cX3_commonDivisor 44 = .ok (.lload 6, 2) := by decide +kernel
theorem dX3_commonDivisor_46 : decode cX3_commonDivisor 46 = .ok (.lreturn, 1) := by decide +kernel
theorem dX3_weeks_0 : decode cX3_weeks 0 = .ok (.aload_n 0, 1) := by decide +kernel
theorem dX3_weeks_1 : decode cX3_weeks 1 = .ok (.aload_n 1, 1) := by decide +kernel
theorem dX3_weeks_2 : decode cX3_weeks 2 = .ok (.iload_n 2, 1) := by decide +kernel
theorem dX3_weeks_3 : decode cX3_weeks 3 = .ok (.invokevirtual 50, 3) := by decide +kernel
theorem dX3_weeks_6 : decode cX3_weeks 6 = .ok (.iload_n 3, 1) := by decide +kernel
theorem dX3_weeks_7 : decode cX3_weeks 7 = .ok (.i2l, 1) := by decide +kernel
theorem dX3_weeks_8 : decode cX3_weeks 8 = .ok (.lstore 5, 2) := by decide +kernel
theorem dX3_weeks_10 : decode cX3_weeks 10 = .ok (.iconst 0, 1) := by decide +kernel
theorem dX3_weeks_11 : decode cX3_weeks 11 = .ok (.istore 7, 2) := by decide +kernel
theorem dX3_weeks_13 : decode cX3_weeks 13 = .ok (.iconst 0, 1) := by decide +kernel
theorem dX3_weeks_14 : decode cX3_weeks 14 = .ok (.istore 8, 2) := by decide +kernel
theorem dX3_weeks_16 : decode cX3_weeks 16 = .ok (.iload 8, 2) := by decide +kernel
theorem dX3_weeks_18 : decode cX3_weeks 18 = .ok (.iload_n 2, 1) := by decide +kernel
theorem dX3_weeks_19 : decode cX3_weeks 19 = .ok (.if_icmp .ge 95, 3) := by decide +kernel
theorem dX3_weeks_22 : decode cX3_weeks 22 = .ok (.lload 5, 2) := by decide +kernel
theorem dX3_weeks_24 : decode cX3_weeks 24 = .ok (.ldc2_w 147, 3) := by decide +kernel
theorem dX3_weeks_27 : decode cX3_weeks 27 = .ok (.lmul, 1) := by decide +kernel
theorem dX3_weeks_28 : decode cX3_weeks 28 = .ok (.ldc2_w 149, 3) := by decide +kernel
theorem dX3_weeks_31 : decode cX3_weeks 31 = .ok (.lrem, 1) := by decide +kernel
theorem dX3_weeks_32 : decode cX3_weeks 32 = .ok (.lstore 5, 2) := by decide +kernel
theorem dX3_weeks_34 : decode cX3_weeks 34 = .ok (.lload 5, 2) := by decide +kernel
theorem dX3_weeks_36 : decode cX3_weeks 36 = .ok (.ldc2_w 151, 3) := by decide +kernel
theorem dX3_weeks_39 : decode cX3_weeks 39 = .ok (.lrem, 1) := by decide +kernel
theorem dX3_weeks_40 : decode cX3_weeks 40 = .ok (.lconst 0, 1) := by decide +kernel
theorem dX3_weeks_41 : decode cX3_weeks 41 = .ok (.lcmp, 1) := by decide +kernel
theorem dX3_weeks_42 : decode cX3_weeks 42 = .ok (.ifCond .ne 46, 3) := by decide +kernel
theorem dX3_weeks_45 : decode cX3_weeks 45 = .ok (.aload_n 1, 1) := by decide +kernel
theorem dX3_weeks_46 : decode cX3_weeks 46 = .ok (.getfield 75, 3) := by decide +kernel
theorem dX3_weeks_49 : decode cX3_weeks 49 = .ok (.ifCond .le 39, 3) := by decide +kernel
theorem dX3_weeks_52 : decode cX3_weeks 52 = .ok (.lload 5, 2) := by decide +kernel
theorem dX3_weeks_54 : decode cX3_weeks 54 = .ok (.aload_n 1, 1) := by decide +kernel
theorem dX3_weeks_55 : decode cX3_weeks 55 = .ok (.getfield 75, 3) := by decide +kernel
theorem dX3_weeks_58 : decode cX3_weeks 58 = .ok (.i2l, 1) := by decide +kernel
theorem dX3_weeks_59 : decode cX3_weeks 59 = .ok (.lrem, 1) := by decide +kernel
theorem dX3_weeks_60 : decode cX3_weeks 60 = .ok (.l2i, 1) := by decide +kernel
theorem dX3_weeks_61 : decode cX3_weeks 61 = .ok (.istore 9, 2) := by decide +kernel
theorem dX3_weeks_63 : decode cX3_weeks 63 = .ok (.aload_n 0, 1) := by decide +kernel
theorem dX3_weeks_64 : decode cX3_weeks 64 = .ok (.getfield 12, 3) := by decide +kernel
theorem dX3_weeks_67 : decode cX3_weeks 67 = .ok (.lload 5, 2) := by decide +kernel
theorem dX3_weeks_69 : decode cX3_weeks 69 = .ok (.ldc2_w 153, 3) := by decide +kernel
theorem dX3_weeks_72 : decode cX3_weeks 72 = .ok (.lrem, 1) := by decide +kernel
theorem dX3_weeks_73 : decode cX3_weeks 73 = .ok (.l2i, 1) := by decide +kernel
theorem dX3_weeks_74 : decode cX3_weeks 74 = .ok (.iload 9, 2) := by decide +kernel
theorem dX3_weeks_76 : decode cX3_weeks 76 = .ok (.aload_n 1, 1) := by decide +kernel
theorem dX3_weeks_77 : decode cX3_weeks 77 = .ok (.getfield 75, 3) := by decide +kernel
theorem dX3_weeks_80 : decode cX3_weeks 80 = .ok (.iconst 1, 1) := by decide +kernel
theorem dX3_weeks_81 : decode cX3_weeks 81 = .ok (.isub, 1) := by decide +kernel
theorem dX3_weeks_82 : decode cX3_weeks 82 = .ok (.iload 9, 2) := by decide +kernel
theorem dX3_weeks_84 : decode cX3_weeks 84 = .ok (.isub, 1) := by decide +kernel
theorem dX3_weeks_85 : decode cX3_weeks 85 = .ok (.invokevirtual 71, 3) := by decide +kernel
theorem dX3_weeks_88 : decode cX3_weeks 88 = .ok (.aload_n 0, 1) := by decide +kernel
theorem dX3_weeks_89 : decode cX3_weeks 89 = .ok (.getfield 28, 3) := by decide +kernel
theorem dX3_weeks_92 : decode cX3_weeks 92 = .ok (.aload_n 0, 1) := by decide +kernel
theorem dX3_weeks_93 : decode cX3_weeks 93 = .ok (.getfield 12, 3) := by decide +kernel
theorem dX3_weeks_96 : decode cX3_weeks 96 = .ok (.invokevirtual 46, 3) := by decide +kernel
theorem dX3_weeks_99 : decode cX3_weeks 99 = .ok (.iload 7, 2) := by decide +kernel
theorem dX3_weeks_101 : decode cX3_weeks 101 = .ok (.aload_n 0, 1) := by decide +kernel
theorem dX3_weeks_102 : decode cX3_weeks 102 = .ok (.invokevirtual 131, 3) := by decide +kernel
theorem dX3_weeks_105 : decode cX3_weeks 105 = .ok (.iadd, 1) := by decide +kernel
theorem dX3_weeks_106 : decode cX3_weeks 106 = .ok (.istore 7, 2) := by decide +kernel
theorem dX3_weeks_108 : decode cX3_weeks 108 = .ok (.iinc 8 1, 3) := by decide +kernel
theorem dX3_weeks_111 : decode cX3_weeks 111 = .ok (.goto (-95), 3) := by decide +kernel
theorem dX3_weeks_114 : decode cX3_weeks 114 = .ok (.iload 4, 2) := by decide +kernel
theorem dX3_weeks_116 : decode cX3_weeks 116 = .ok (.ifCond .ne 16, 3) := by decide +kernel
theorem dX3_weeks_119 : decode cX3_weeks 119 = .ok (.aload_n 0, 1) := by decide +kernel
theorem dX3_weeks_120 : decode cX3_weeks 120 = .ok (.getfield 12, 3) := by decide +kernel
theorem dX3_weeks_123 : decode cX3_weeks 123 = .ok (.invokevirtual 155, 3) := by decide +kernel
theorem dX3_weeks_126 : decode cX3_weeks 126 = .ok (.invokestatic 89, 3) := by decide +kernel
theorem dX3_weeks_129 : decode cX3_weeks 129 = .ok (.goto 5, 3) := by decide +kernel
theorem dX3_weeks_132 : decode cX3_weeks 132 = .ok (.iload 7, 2) := by decide +kernel
theorem dX3_weeks_134 : decode cX3_weeks 134 = .ok (.ireturn, 1) := by decide +kernel
theorem dX4_init_0 : decode cX4_init 0 = .ok (.aload_n 0, 1) := by decide +kernel
theorem dX4_init_1 : decode cX4_init 1 = .ok (.invokespecial 3, 3) := by decide +kernel
theorem dX4_init_4 : decode cX4_init 4 = .ok (.aload_n 0, 1) := by decide +kernel
theorem dX4_init_5 : decode cX4_init 5 = .ok (.bipush 8, 2) := by decide +kernel
theorem dX4_init_7 : decode cX4_init 7 = .ok (.bipush 40, 2) := by decide +kernel
theorem dX4_init_9 : decode cX4_init 9 = .ok (.multianewarray 11 2, 4) := by decide +kernel
theorem dX4_init_13 : decode cX4_init 13 = .ok (.putfield 13, 3) := by decide +kernel
theorem dX4_init_16 : decode cX4_init 16 = .ok (.aload_n 0, 1) := by decide +kernel
theorem dX4_init_17 : decode cX4_init 17 = .ok (.bipush 8, 2) := by decide +kernel
theorem dX4_init_19 : decode cX4_init 19 = .ok (.newarray .int, 2) := by decide +kernel
theorem dX4_init_21 : decode cX4_init 21 = .ok (.putfield 16, 3) := by decide +kernel
theorem dX4_init_24 : decode cX4_init 24 = .ok (.aload_n 0, 1) := by decide +kernel
theorem dX4_init_25 : decode cX4_init 25 = .ok (.bipush 8, 2) := by decide +kernel
theorem dX4_init_27 : decode cX4_init 27 = .ok (.newarray .int, 2) := by decide +kernel
theorem dX4_init_29 : decode cX4_init 29 = .ok (.putfield 20, 3) := by decide +kernel
theorem dX4_init_32 : decode cX4_init 32 = .ok (.iconst 0, 1) := by decide +kernel
theorem dX4_init_33 : decode cX4_init 33 = .ok (.istore_n 1, 1) := by decide +kernel
theorem dX4_init_34 : decode cX4_init 34 = .ok (.iload_n 1, 1) := by decide +kernel
theorem dX4_init_35 : decode cX4_init 35 = .ok (.bipush 8, 2) := by decide +kernel
theorem dX4_init_37 : decode cX4_init 37 = .ok (.if_icmp .ge 16, 3) := by decide +kernel
theorem dX4_init_40 : decode cX4_init 40 = .ok (.aload_n 0, 1) := by decide +kernel
theorem dX4_init_41 : decode cX4_init 41 = .ok (.getfield 16, 3) := by decide +kernel
theorem dX4_init_44 : decode cX4_init 44 = .ok (.iload_n 1, 1) := by decide +kernel
theorem dX4_init_45 : decode cX4_init 45 = .ok (.iconst (-1), 1) := by decide +kernel
theorem dX4_init_46 : decode cX4_init 46 = .ok (.iastore, 1) := by decide +kernel
theorem dX4_init_47 : decode cX4_init 47 = .ok (.iinc 1 1, 3) := by decide +kernel
theorem dX4_init_50 : decode cX4_init 50 = .ok (.goto (-16), 3) := by decide +kernel
theorem dX4_init_53 : decode cX4_init 53 = .ok (.return_, 1) := by decide +kernel
theorem dX4_isRow_0 : decode cX4_isRow 0 = .ok (.iload_n 0, 1) := by decide +kernel
theorem dX4_isRow_1 : decode cX4_isRow 1 = .ok (.ifCond .lt 13, 3) := by decide +kernel
theorem dX4_isRow_4 : decode cX4_isRow 4 = .ok (.iload_n 0, 1) := by decide +kernel
theorem dX4_isRow_5 : decode cX4_isRow 5 = .ok (.bipush 8, 2) := by decide +kernel
theorem dX4_isRow_7 : decode cX4_isRow 7 = .ok (.if_icmp .ge 7, 3) := by decide +kernel
theorem dX4_isRow_10 : decode cX4_isRow 10 = .ok (.iconst 1, 1) := by decide +kernel
theorem dX4_isRow_11 : decode cX4_isRow 11 = .ok (.goto 4, 3) := by decide +kernel
theorem dX4_isRow_14 : decode cX4_isRow 14 = .ok (.iconst 0, 1) := by decide +kernel
theorem dX4_isRow_15 : decode cX4_isRow 15 = .ok (.ireturn, 1) := by decide +kernel
theorem dX4_isThere_0 : decode cX4_isThere 0 = .ok (.aload_n 0, 1) := by decide +kernel
theorem dX4_isThere_1 : decode cX4_isThere 1 = .ok (.getfield 16, 3) := by decide +kernel
theorem dX4_isThere_4 : decode cX4_isThere 4 = .ok (.iload_n 1, 1) := by decide +kernel
theorem dX4_isThere_5 : decode cX4_isThere 5 = .ok (.iaload, 1) := by decide +kernel
theorem dX4_isThere_6 : decode cX4_isThere 6 = .ok (.iconst (-1), 1) := by decide +kernel
theorem dX4_isThere_7 : decode cX4_isThere 7 = .ok (.if_icmp .eq 7, 3) := by decide +kernel
theorem dX4_isThere_10 : decode cX4_isThere 10 = .ok (.iconst 1, 1) := by decide +kernel
theorem dX4_isThere_11 : decode cX4_isThere 11 = .ok (.goto 4, 3) := by decide +kernel
theorem dX4_isThere_14 : decode cX4_isThere 14 = .ok (.iconst 0, 1) := by decide +kernel
theorem dX4_isThere_15 : decode cX4_isThere 15 = .ok (.ireturn, 1) := by decide +kernel
theorem dX4_laneOf_0 : decode cX4_laneOf 0 = .ok (.aload_n 0, 1) := by decide +kernel
theorem dX4_laneOf_1 : decode cX4_laneOf 1 = .ok (.getfield 16, 3) := by decide +kernel
theorem dX4_laneOf_4 : decode cX4_laneOf 4 = .ok (.iload_n 1, 1) := by decide +kernel
theorem dX4_laneOf_5 : decode cX4_laneOf 5 = .ok (.iaload, 1) := by decide +kernel
theorem dX4_laneOf_6 : decode cX4_laneOf 6 = .ok (.ireturn, 1) := by decide +kernel
theorem dX4_lengthOf_0 : decode cX4_lengthOf 0 = .ok (.aload_n 0, 1) := by decide +kernel
theorem dX4_lengthOf_1 : decode cX4_lengthOf 1 = .ok (.getfield 20, 3) := by decide +kernel
theorem dX4_lengthOf_4 : decode cX4_lengthOf 4 = .ok (.iload_n 1, 1) := by decide +kernel
theorem dX4_lengthOf_5 : decode cX4_lengthOf 5 = .ok (.iaload, 1) := by decide +kernel
theorem dX4_lengthOf_6 : decode cX4_lengthOf 6 = .ok (.ireturn, 1) := by decide +kernel
theorem dX4_howMany_0 : decode cX4_howMany 0 = .ok (.iconst 0, 1) := by decide +kernel
theorem dX4_howMany_1 : decode cX4_howMany 1 = .ok (.istore_n 1, 1) := by decide +kernel
theorem dX4_howMany_2 : decode cX4_howMany 2 = .ok (.iconst 0, 1) := by decide +kernel
theorem dX4_howMany_3 : decode cX4_howMany 3 = .ok (.istore_n 2, 1) := by decide +kernel
theorem dX4_howMany_4 : decode cX4_howMany 4 = .ok (.iload_n 2, 1) := by decide +kernel
theorem dX4_howMany_5 : decode cX4_howMany 5 = .ok (.bipush 8, 2) := by decide +kernel
theorem dX4_howMany_7 : decode cX4_howMany 7 = .ok (.if_icmp .ge 25, 3) := by decide +kernel
theorem dX4_howMany_10 : decode cX4_howMany 10 = .ok (.iload_n 1, 1) := by decide +kernel
theorem dX4_howMany_11 : decode cX4_howMany 11 = .ok (.aload_n 0, 1) := by decide +kernel
theorem dX4_howMany_12 : decode cX4_howMany 12 = .ok (.iload_n 2, 1) := by decide +kernel
theorem dX4_howMany_13 : decode cX4_howMany 13 = .ok (.invokevirtual 23, 3) := by decide +kernel
theorem dX4_howMany_16 : decode cX4_howMany 16 = .ok (.ifCond .eq 7, 3) := by decide +kernel
theorem dX4_howMany_19 : decode cX4_howMany 19 = .ok (.iconst 1, 1) := by decide +kernel
theorem dX4_howMany_20 : decode cX4_howMany 20 = .ok (.goto 4, 3) := by decide +kernel
theorem dX4_howMany_23 : decode cX4_howMany 23 = .ok (.iconst 0, 1) := by decide +kernel
theorem dX4_howMany_24 : decode cX4_howMany 24 = .ok (.iadd, 1) := by decide +kernel
theorem dX4_howMany_25 : decode cX4_howMany 25 = .ok (.istore_n 1, 1) := by decide +kernel
theorem dX4_howMany_26 : decode cX4_howMany 26 = .ok (.iinc 2 1, 3) := by decide +kernel
theorem dX4_howMany_29 : decode cX4_howMany 29 = .ok (.goto (-25), 3) := by decide +kernel
theorem dX4_howMany_32 : decode cX4_howMany 32 = .ok (.iload_n 1, 1) := by decide +kernel
theorem dX4_howMany_33 : decode cX4_howMany 33 = .ok (.ireturn, 1) := by decide +kernel
theorem dX4_make_0 : decode cX4_make 0 = .ok (.aload_n 0, 1) := by decide +kernel
theorem dX4_make_1 : decode cX4_make 1 = .ok (.getfield 16, 3) := by decide +kernel
theorem dX4_make_4 : decode cX4_make 4 = .ok (.iload_n 1, 1) := by decide +kernel
theorem dX4_make_5 : decode cX4_make 5 = .ok (.iload_n 2, 1) := by decide +kernel
theorem dX4_make_6 : decode cX4_make 6 = .ok (.iastore, 1) := by decide +kernel
theorem dX4_make_7 : decode cX4_make 7 = .ok (.aload_n 0, 1) := by decide +kernel
theorem dX4_make_8 : decode cX4_make 8 = .ok (.getfield 20, 3) := by decide +kernel
theorem dX4_make_11 : decode cX4_make 11 = .ok (.iload_n 1, 1) := by decide +kernel
theorem dX4_make_12 : decode cX4_make 12 = .ok (.iload_n 3, 1) := by decide +kernel
theorem dX4_make_13 : decode cX4_make 13 = .ok (.iastore, 1) := by decide +kernel
theorem dX4_make_14 : decode cX4_make 14 = .ok (.iconst 0, 1) := by decide +kernel
theorem dX4_make_15 : decode cX4_make 15 = .ok (.istore 4, 2) := by decide +kernel
theorem dX4_make_17 : decode cX4_make 17 = .ok (.iload 4, 2) := by decide +kernel
theorem dX4_make_19 : decode cX4_make 19 = .ok (.bipush 40, 2) := by decide +kernel
theorem dX4_make_21 : decode cX4_make 21 = .ok (.if_icmp .ge 19, 3) := by decide +kernel
theorem dX4_make_24 : decode cX4_make 24 = .ok (.aload_n 0, 1) := by decide +kernel
theorem dX4_make_25 : decode cX4_make 25 = .ok (.getfield 13, 3) := by decide +kernel
theorem dX4_make_28 : decode cX4_make 28 = .ok (.iload_n 1, 1) := by decide +kernel
theorem dX4_make_29 : decode cX4_make 29 = .ok (.aaload, 1) := by decide +kernel
theorem dX4_make_30 : decode cX4_make 30 = .ok (.iload 4, 2) := by decide +kernel
theorem dX4_make_32 : decode cX4_make 32 = .ok (.iconst 0, 1) := by decide +kernel
theorem dX4_make_33 : decode cX4_make 33 = .ok (.iastore, 1) := by decide +kernel
theorem dX4_make_34 : decode cX4_make 34 = .ok (.iinc 4 1, 3) := by decide +kernel
theorem dX4_make_37 : decode cX4_make 37 = .ok (.goto (-20), 3) := by decide +kernel
theorem dX4_make_40 : decode cX4_make 40 = .ok (.return_, 1) := by decide +kernel
theorem dX4_lose_0 : decode cX4_lose 0 = .ok (.aload_n 0, 1) := by decide +kernel
theorem dX4_lose_1 : decode cX4_lose 1 = .ok (.getfield 16, 3) := by decide +kernel
theorem dX4_lose_4 : decode cX4_lose 4 = .ok (.iload_n 1, 1) := by decide +kernel
theorem dX4_lose_5 : decode cX4_lose 5 = .ok (.iconst (-1), 1) := by decide +kernel
theorem dX4_lose_6 : decode cX4_lose 6 = .ok (.iastore, 1) := by decide +kernel
theorem dX4_lose_7 : decode cX4_lose 7 = .ok (.aload_n 0, 1) := by decide +kernel
theorem dX4_lose_8 : decode cX4_lose 8 = .ok (.getfield 20, 3) := by decide +kernel
theorem dX4_lose_11 : decode cX4_lose 11 = .ok (.iload_n 1, 1) := by decide +kernel
theorem dX4_lose_12 : decode cX4_lose 12 = .ok (.iconst 0, 1) := by decide +kernel
theorem dX4_lose_13 : decode cX4_lose 13 = .ok (.iastore, 1) := by decide +kernel
theorem dX4_lose_14 : decode cX4_lose 14 = .ok (.return_, 1) := by decide +kernel
theorem dX4_hasPlaces_0 : decode cX4_hasPlaces 0 = .ok (.iload_n 2, 1) := by decide +kernel
theorem dX4_hasPlaces_1 : decode cX4_hasPlaces 1 = .ok (.ifCond .lt 23, 3) := by decide +kernel
theorem dX4_hasPlaces_4 : decode cX4_hasPlaces 4 = .ok (.iload_n 3, 1) := by decide +kernel
theorem dX4_hasPlaces_5 : decode cX4_hasPlaces 5 = .ok (.ifCond .lt 19, 3) := by decide +kernel
theorem dX4_hasPlaces_8 : decode cX4_hasPlaces 8 = .ok (.iload_n 2, 1) := by decide +kernel
theorem dX4_hasPlaces_9 : decode cX4_hasPlaces 9 = .ok (.aload_n 0, 1) := by decide +kernel
theorem dX4_hasPlaces_10 : decode cX4_hasPlaces 10 = .ok (.getfield 20, 3) := by decide +kernel
theorem dX4_hasPlaces_13 : decode cX4_hasPlaces 13 = .ok (.iload_n 1, 1) := by decide +kernel
theorem dX4_hasPlaces_14 : decode cX4_hasPlaces 14 = .ok (.iaload, 1) := by decide +kernel
theorem dX4_hasPlaces_15 : decode cX4_hasPlaces 15 = .ok (.iload_n 3, 1) := by decide +kernel
theorem dX4_hasPlaces_16 : decode cX4_hasPlaces 16 = .ok (.isub, 1) := by decide +kernel
theorem dX4_hasPlaces_17 : decode cX4_hasPlaces 17 = .ok (.if_icmp .gt 7, 3) := by decide +kernel
theorem dX4_hasPlaces_20 : decode cX4_hasPlaces 20 = .ok (.iconst 1, 1) := by decide +kernel
theorem dX4_hasPlaces_21 : decode cX4_hasPlaces 21 = .ok (.goto 4, 3) := by decide +kernel
theorem dX4_hasPlaces_24 : decode cX4_hasPlaces 24 = .ok (.iconst 0, 1) := by decide +kernel
theorem dX4_hasPlaces_25 : decode cX4_hasPlaces 25 = .ok (.ireturn, 1) := by decide +kernel
theorem dX4_findingOf_0 : decode cX4_findingOf 0 = .ok (.aload_n 0, 1) := by decide +kernel
theorem dX4_findingOf_1 : decode cX4_findingOf 1 = .ok (.iload_n 1, 1) := by decide +kernel
theorem dX4_findingOf_2 : decode cX4_findingOf 2 = .ok (.invokevirtual 23, 3) := by decide +kernel
theorem dX4_findingOf_5 : decode cX4_findingOf 5 = .ok (.ifCond .ne 5, 3) := by decide +kernel
theorem dX4_findingOf_8 : decode cX4_findingOf 8 = .ok (.iconst 1, 1) := by decide +kernel
theorem dX4_findingOf_9 : decode cX4_findingOf 9 = .ok (.ireturn, 1) := by decide +kernel
theorem dX4_findingOf_10 : decode cX4_findingOf 10 = .ok (.aload_n 0, 1) := by decide +kernel
theorem dX4_findingOf_11 : decode cX4_findingOf 11 = .ok (.iload_n 1, 1) := by decide +kernel
theorem dX4_findingOf_12 : decode cX4_findingOf 12 = .ok (.iload_n 2, 1) := by decide +kernel
theorem dX4_findingOf_13 : decode cX4_findingOf 13 = .ok (.iload_n 3, 1) := by decide +kernel
theorem dX4_findingOf_14 : decode cX4_findingOf 14 = .ok (.invokevirtual 27, 3) := by decide +kernel
theorem dX4_findingOf_17 : decode cX4_findingOf 17 = .ok (.ifCond .eq 7, 3) := by decide +kernel
theorem dX4_findingOf_20 : decode cX4_findingOf 20 = .ok (.iconst 0, 1) := by decide +kernel
theorem dX4_findingOf_21 : decode cX4_findingOf 21 = .ok (.goto 4, 3) := by decide +kernel
theorem dX4_findingOf_24 : decode cX4_findingOf 24 = .ok (.iconst 2, 1) := by decide +kernel
theorem dX4_findingOf_25 : decode cX4_findingOf 25 = .ok (.ireturn, 1) := by decide +kernel
theorem dX4_itemAt_0 : decode cX4_itemAt 0 = .ok (.aload_n 0, 1) := by decide +kernel
theorem dX4_itemAt_1 : decode cX4_itemAt 1 = .ok (.getfield 13, 3) := by decide +kernel
theorem dX4_itemAt_4 : decode cX4_itemAt 4 = .ok (.iload_n 1, 1) := by decide +kernel
theorem dX4_itemAt_5 : decode cX4_itemAt 5 = .ok (.aaload, 1) := by decide +kernel
theorem dX4_itemAt_6 : decode cX4_itemAt 6 = .ok (.iload_n 2, 1) := by decide +kernel
theorem dX4_itemAt_7 : decode cX4_itemAt 7 = .ok (.iaload, 1) := by decide +kernel
theorem dX4_itemAt_8 : decode cX4_itemAt 8 = .ok (.ireturn, 1) := by decide +kernel
theorem dX4_put_0 : decode cX4_put 0 = .ok (.aload_n 0, 1) := by decide +kernel
theorem dX4_put_1 : decode cX4_put 1 = .ok (.getfield 13, 3) := by decide +kernel
theorem dX4_put_4 : decode cX4_put 4 = .ok (.iload_n 1, 1) := by decide +kernel
theorem dX4_put_5 : decode cX4_put 5 = .ok (.aaload, 1) := by decide +kernel
theorem dX4_put_6 : decode cX4_put 6 = .ok (.iload_n 2, 1) := by decide +kernel
theorem dX4_put_7 : decode cX4_put 7 = .ok (.aload_n 0, 1) := by decide +kernel
theorem dX4_put_8 : decode cX4_put 8 = .ok (.getfield 16, 3) := by decide +kernel
theorem dX4_put_11 : decode cX4_put 11 = .ok (.iload_n 1, 1) := by decide +kernel
theorem dX4_put_12 : decode cX4_put 12 = .ok (.iaload, 1) := by decide +kernel
theorem dX4_put_13 : decode cX4_put 13 = .ok (.iload_n 3, 1) := by decide +kernel
theorem dX4_put_14 : decode cX4_put 14 = .ok (.invokestatic 31, 3) := by decide +kernel
theorem dX4_put_17 : decode cX4_put 17 = .ok (.iastore, 1) := by decide +kernel
theorem dX4_put_18 : decode cX4_put 18 = .ok (.aload_n 0, 1) := by decide +kernel
theorem dX4_put_19 : decode cX4_put 19 = .ok (.getfield 13, 3) := by decide +kernel
theorem dX4_put_22 : decode cX4_put 22 = .ok (.iload_n 1, 1) := by decide +kernel
theorem dX4_put_23 : decode cX4_put 23 = .ok (.aaload, 1) := by decide +kernel
theorem dX4_put_24 : decode cX4_put 24 = .ok (.iload_n 2, 1) := by decide +kernel
theorem dX4_put_25 : decode cX4_put 25 = .ok (.iaload, 1) := by decide +kernel
theorem dX4_put_26 : decode cX4_put 26 = .ok (.ireturn, 1) := by decide +kernel
theorem dX4_carryOver_0 : decode cX4_carryOver 0 = .ok (.aload_n 0, 1) := by decide +kernel
theorem dX4_carryOver_1 : decode cX4_carryOver 1 = .ok (.getfield 13, 3) := by decide +kernel
theorem dX4_carryOver_4 : decode cX4_carryOver 4 = .ok (.iload_n 1, 1) := by decide +kernel
theorem dX4_carryOver_5 : decode cX4_carryOver 5 = .ok (.aaload, 1) := by decide +kernel
theorem dX4_carryOver_6 : decode cX4_carryOver 6 = .ok (.iload_n 2, 1) := by decide +kernel
theorem dX4_carryOver_7 : decode cX4_carryOver 7 = .ok (.aload_n 0, 1) := by decide +kernel
theorem dX4_carryOver_8 : decode cX4_carryOver 8 = .ok (.getfield 13, 3) := by decide +kernel
theorem dX4_carryOver_11 : decode cX4_carryOver 11 = .ok (.iload_n 3, 1) := by decide +kernel
theorem dX4_carryOver_12 : decode cX4_carryOver 12 = .ok (.aaload, 1) := by decide +kernel
theorem dX4_carryOver_13 : decode cX4_carryOver 13 = .ok (.iload 4, 2) := by decide +kernel
theorem dX4_carryOver_15 : decode cX4_carryOver 15 = .ok (.iload 5, 2) := by decide +kernel
theorem dX4_carryOver_17 : decode cX4_carryOver 17 = .ok (.invokestatic 35, 3) := by decide +kernel
theorem dX4_carryOver_20 : decode cX4_carryOver 20 = .ok (.return_, 1) := by decide +kernel
theorem dX4_cut_0 : decode cX4_cut 0 = .ok (.iload_n 0, 1) := by decide +kernel
theorem dX4_cut_1 : decode cX4_cut 1 = .ok (.lookupswitch 33 #[(0, 27), (1, 30)], 27) := by decide +kernel
theorem dX4_cut_28 : decode cX4_cut 28 = .ok (.iload_n 1, 1) := by decide +kernel
theorem dX4_cut_29 : decode cX4_cut 29 = .ok (.i2b, 1) := by decide +kernel
theorem dX4_cut_30 : decode cX4_cut 30 = .ok (.ireturn, 1) := by decide +kernel
theorem dX4_cut_31 : decode cX4_cut 31 = .ok (.iload_n 1, 1) := by decide +kernel
theorem dX4_cut_32 : decode cX4_cut 32 = .ok (.i2s, 1) := by decide +kernel
theorem dX4_cut_33 : decode cX4_cut 33 = .ok (.ireturn, 1) := by decide +kernel
theorem dX4_cut_34 : decode cX4_cut 34 = .ok (.iload_n 1, 1) := by decide +kernel
theorem dX4_cut_35 : decode cX4_cut 35 = .ok (.ireturn, 1) := by decide +kernel
theorem dX5_init_0 : decode cX5_init 0 = .ok (.aload_n 0, 1) := by decide +kernel
theorem dX5_init_1 : decode cX5_init 1 = .ok (.invokespecial 3, 3) := by decide +kernel
theorem dX5_init_4 : decode cX5_init 4 = .ok (.aload_n 0, 1) := by decide +kernel
theorem dX5_init_5 : decode cX5_init 5 = .ok (.bipush 120, 2) := by decide +kernel
theorem dX5_init_7 : decode cX5_init 7 = .ok (.newarray .int, 2) := by decide +kernel
theorem dX5_init_9 : decode cX5_init 9 = .ok (.putfield 11, 3) := by decide +kernel
theorem dX5_init_12 : decode cX5_init 12 = .ok (.return_, 1) := by decide +kernel
theorem dX5_add_0 : decode cX5_add 0 = .ok (.aload_n 0, 1) := by decide +kernel
theorem dX5_add_1 : decode cX5_add 1 = .ok (.getfield 15, 3) := by decide +kernel
theorem dX5_add_4 : decode cX5_add 4 = .ok (.bipush 120, 2) := by decide +kernel
theorem dX5_add_6 : decode cX5_add 6 = .ok (.if_icmp .lt 5, 3) := by decide +kernel
theorem dX5_add_9 : decode cX5_add 9 = .ok (.iconst 0, 1) := by decide +kernel
theorem dX5_add_10 : decode cX5_add 10 = .ok (.ireturn, 1) := by decide +kernel
theorem dX5_add_11 : decode cX5_add 11 = .ok (.aload_n 0, 1) := by decide +kernel
theorem dX5_add_12 : decode cX5_add 12 = .ok (.getfield 11, 3) := by decide +kernel
theorem dX5_add_15 : decode cX5_add 15 = .ok (.aload_n 0, 1) := by decide +kernel
theorem dX5_add_16 : decode cX5_add 16 = .ok (.getfield 15, 3) := by decide +kernel
theorem dX5_add_19 : decode cX5_add 19 = .ok (.iload_n 1, 1) := by decide +kernel
theorem dX5_add_20 : decode cX5_add 20 = .ok (.iastore, 1) := by decide +kernel
theorem dX5_add_21 : decode cX5_add 21 = .ok (.aload_n 0, 1) := by decide +kernel
theorem dX5_add_22 : decode cX5_add 22 = .ok (.dup, 1) := by decide +kernel
theorem dX5_add_23 : decode cX5_add 23 = .ok (.getfield 15, 3) := by decide +kernel
theorem dX5_add_26 : decode cX5_add 26 = .ok (.iconst 1, 1) := by decide +kernel
theorem dX5_add_27 : decode cX5_add 27 = .ok (.iadd, 1) := by decide +kernel
theorem dX5_add_28 : decode cX5_add 28 = .ok (.putfield 15, 3) := by decide +kernel
theorem dX5_add_31 : decode cX5_add 31 = .ok (.iconst 1, 1) := by decide +kernel
theorem dX5_add_32 : decode cX5_add 32 = .ok (.ireturn, 1) := by decide +kernel
theorem dX5_length_0 : decode cX5_length 0 = .ok (.aload_n 0, 1) := by decide +kernel
theorem dX5_length_1 : decode cX5_length 1 = .ok (.getfield 15, 3) := by decide +kernel
theorem dX5_length_4 : decode cX5_length 4 = .ok (.ireturn, 1) := by decide +kernel
theorem dX5_clear_0 : decode cX5_clear 0 = .ok (.aload_n 0, 1) := by decide +kernel
theorem dX5_clear_1 : decode cX5_clear 1 = .ok (.iconst 0, 1) := by decide +kernel
theorem dX5_clear_2 : decode cX5_clear 2 = .ok (.putfield 15, 3) := by decide +kernel
theorem dX5_clear_5 : decode cX5_clear 5 = .ok (.return_, 1) := by decide +kernel
theorem dX5_faultPlace_0 : decode cX5_faultPlace 0 = .ok (.aload_n 0, 1) := by decide +kernel
theorem dX5_faultPlace_1 : decode cX5_faultPlace 1 = .ok (.getfield 19, 3) := by decide +kernel
theorem dX5_faultPlace_4 : decode cX5_faultPlace 4 = .ok (.ireturn, 1) := by decide +kernel
theorem dX5_read_0 : decode cX5_read 0 = .ok (.aload_n 0, 1) := by decide +kernel
theorem dX5_read_1 : decode cX5_read 1 = .ok (.iconst 0, 1) := by decide +kernel
theorem dX5_read_2 : decode cX5_read 2 = .ok (.putfield 22, 3) := by decide +kernel
theorem dX5_read_5 : decode cX5_read 5 = .ok (.aload_n 0, 1) := by decide +kernel
theorem dX5_read_6 : decode cX5_read 6 = .ok (.iconst 0, 1) := by decide +kernel
theorem dX5_read_7 : decode cX5_read 7 = .ok (.putfield 25, 3) := by decide +kernel
theorem dX5_read_10 : decode cX5_read 10 = .ok (.aload_n 1, 1) := by decide +kernel
theorem dX5_read_11 : decode cX5_read 11 = .ok (.invokevirtual 28, 3) := by decide +kernel
theorem dX5_read_14 : decode cX5_read 14 = .ok (.aload_n 0, 1) := by decide +kernel
theorem dX5_read_15 : decode cX5_read 15 = .ok (.bipush 116, 2) := by decide +kernel
theorem dX5_read_17 : decode cX5_read 17 = .ok (.invokevirtual 33, 3) := by decide +kernel
theorem dX5_read_20 : decode cX5_read 20 = .ok (.aload_n 1, 1) := by decide +kernel
theorem dX5_read_21 : decode cX5_read 21 = .ok (.aload_n 0, 1) := by decide +kernel
theorem dX5_read_22 : decode cX5_read 22 = .ok (.iconst 2, 1) := by decide +kernel
theorem dX5_read_23 : decode cX5_read 23 = .ok (.bipush 9, 2) := by decide +kernel
theorem dX5_read_25 : decode cX5_read 25 = .ok (.invokevirtual 37, 3) := by decide +kernel
theorem dX5_read_28 : decode cX5_read 28 = .ok (.putfield 41, 3) := by decide +kernel
theorem dX5_read_31 : decode cX5_read 31 = .ok (.aload_n 0, 1) := by decide +kernel
theorem dX5_read_32 : decode cX5_read 32 = .ok (.bipush 44, 2) := by decide +kernel
theorem dX5_read_34 : decode cX5_read 34 = .ok (.invokevirtual 33, 3) := by decide +kernel
theorem dX5_read_37 : decode cX5_read 37 = .ok (.aload_n 1, 1) := by decide +kernel
theorem dX5_read_38 : decode cX5_read 38 = .ok (.aload_n 0, 1) := by decide +kernel
theorem dX5_read_39 : decode cX5_read 39 = .ok (.iconst 4, 1) := by decide +kernel
theorem dX5_read_40 : decode cX5_read 40 = .ok (.bipush 24, 2) := by decide +kernel
theorem dX5_read_42 : decode cX5_read 42 = .ok (.invokevirtual 37, 3) := by decide +kernel
theorem dX5_read_45 : decode cX5_read 45 = .ok (.putfield 44, 3) := by decide +kernel
theorem dX5_read_48 : decode cX5_read 48 = .ok (.aload_n 0, 1) := by decide +kernel
theorem dX5_read_49 : decode cX5_read 49 = .ok (.bipush 59, 2) := by decide +kernel
theorem dX5_read_51 : decode cX5_read 51 = .ok (.invokevirtual 33, 3) := by decide +kernel
theorem dX5_read_54 : decode cX5_read 54 = .ok (.aload_n 0, 1) := by decide +kernel
theorem dX5_read_55 : decode cX5_read 55 = .ok (.aload_n 1, 1) := by decide +kernel
theorem dX5_read_56 : decode cX5_read 56 = .ok (.invokevirtual 47, 3) := by decide +kernel
theorem dX5_read_59 : decode cX5_read 59 = .ok (.iconst 1, 1) := by decide +kernel
theorem dX5_read_60 : decode cX5_read 60 = .ok (.istore_n 2, 1) := by decide +kernel
theorem dX5_read_61 : decode cX5_read 61 = .ok (.iload_n 2, 1) := by decide +kernel
theorem dX5_read_62 : decode cX5_read 62 = .ok (.bipush 6, 2) := by decide +kernel
theorem dX5_read_64 : decode cX5_read 64 = .ok (.if_icmp .gt 32, 3) := by decide +kernel
theorem dX5_read_67 : decode cX5_read 67 = .ok (.aload_n 0, 1) := by decide +kernel
theorem dX5_read_68 : decode cX5_read 68 = .ok (.getfield 25, 3) := by decide +kernel
theorem dX5_read_71 : decode cX5_read 71 = .ok (.ifCond .ne 25, 3) := by decide +kernel
theorem dX5_read_74 : decode cX5_read 74 = .ok (.aload_n 0, 1) := by decide +kernel
theorem dX5_read_75 : decode cX5_read 75 = .ok (.getfield 22, 3) := by decide +kernel
theorem dX5_read_78 : decode cX5_read 78 = .ok (.aload_n 0, 1) := by decide +kernel
theorem dX5_read_79 : decode cX5_read 79 = .ok (.getfield 15, 3) := by decide +kernel
theorem dX5_read_82 : decode cX5_read 82 = .ok (.if_icmp .ge 14, 3) := by decide +kernel
theorem dX5_read_85 : decode cX5_read 85 = .ok (.aload_n 0, 1) := by decide +kernel
theorem dX5_read_86 : decode cX5_read 86 = .ok (.aload_n 1, 1) := by decide +kernel
theorem dX5_read_87 : decode cX5_read 87 = .ok (.invokevirtual 47, 3) := by decide +kernel
theorem dX5_read_90 : decode cX5_read 90 = .ok (.iinc 2 1, 3) := by decide +kernel
theorem dX5_read_93 : decode cX5_read 93 = .ok (.goto (-32), 3) := by decide +kernel
theorem dX5_read_96 : decode cX5_read 96 = .ok (.aload_n 0, 1) := by decide +kernel
theorem dX5_read_97 : decode cX5_read 97 = .ok (.getfield 25, 3) := by decide +kernel
theorem dX5_read_100 : decode cX5_read 100 = .ok (.ireturn, 1) := by decide +kernel
theorem dX5_readPerson_0 : decode cX5_readPerson 0 = .ok (.aload_n 0, 1) := by decide +kernel
theorem dX5_readPerson_1 : decode cX5_readPerson 1 = .ok (.aload_n 1, 1) := by decide +kernel
theorem dX5_readPerson_2 : decode cX5_readPerson 2 = .ok (.getfield 51, 3) := by decide +kernel
theorem dX5_readPerson_5 : decode cX5_readPerson 5 = .ok (.invokevirtual 54, 3) := by decide +kernel
theorem dX5_readPerson_8 : decode cX5_readPerson 8 = .ok (.istore_n 2, 1) := by decide +kernel
theorem dX5_readPerson_9 : decode cX5_readPerson 9 = .ok (.aload_n 0, 1) := by decide +kernel
theorem dX5_readPerson_10 : decode cX5_readPerson 10 = .ok (.iconst 0, 1) := by decide +kernel
theorem dX5_readPerson_11 : decode cX5_readPerson 11 = .ok (.aload_n 1, 1) := by decide +kernel
theorem dX5_readPerson_12 : decode cX5_readPerson 12 = .ok (.getfield 41, 3) := by decide +kernel
theorem dX5_readPerson_15 : decode cX5_readPerson 15 = .ok (.iconst 1, 1) := by decide +kernel
theorem dX5_readPerson_16 : decode cX5_readPerson 16 = .ok (.isub, 1) := by decide +kernel
theorem dX5_readPerson_17 : decode cX5_readPerson 17 = .ok (.invokevirtual 37, 3) := by decide +kernel
theorem dX5_readPerson_20 : decode cX5_readPerson 20 = .ok (.istore_n 3, 1) := by decide +kernel
theorem dX5_readPerson_21 : decode cX5_readPerson 21 = .ok (.aload_n 0, 1) := by decide +kernel
theorem dX5_readPerson_22 : decode cX5_readPerson 22 = .ok (.bipush 44, 2) := by decide +kernel
theorem dX5_readPerson_24 : decode cX5_readPerson 24 = .ok (.invokevirtual 33, 3) := by decide +kernel
theorem dX5_readPerson_27 : decode cX5_readPerson 27 = .ok (.aload_n 0, 1) := by decide +kernel
theorem dX5_readPerson_28 : decode cX5_readPerson 28 = .ok (.iconst 0, 1) := by decide +kernel
theorem dX5_readPerson_29 : decode cX5_readPerson 29 = .ok (.aload_n 1, 1) := by decide +kernel
theorem dX5_readPerson_30 : decode cX5_readPerson 30 = .ok (.getfield 41, 3) := by decide +kernel
theorem dX5_readPerson_33 : decode cX5_readPerson 33 = .ok (.iconst 1, 1) := by decide +kernel
theorem dX5_readPerson_34 : decode cX5_readPerson 34 = .ok (.isub, 1) := by decide +kernel
theorem dX5_readPerson_35 : decode cX5_readPerson 35 = .ok (.invokevirtual 37, 3) := by decide +kernel
theorem dX5_readPerson_38 : decode cX5_readPerson 38 = .ok (.istore 4, 2) := by decide +kernel
theorem dX5_readPerson_40 : decode cX5_readPerson 40 = .ok (.aload_n 0, 1) := by decide +kernel
theorem dX5_readPerson_41 : decode cX5_readPerson 41 = .ok (.bipush 44, 2) := by decide +kernel
theorem dX5_readPerson_43 : decode cX5_readPerson 43 = .ok (.invokevirtual 33, 3) := by decide +kernel
theorem dX5_readPerson_46 : decode cX5_readPerson 46 = .ok (.aload_n 0, 1) := by decide +kernel
theorem dX5_readPerson_47 : decode cX5_readPerson 47 = .ok (.iconst 0, 1) := by decide +kernel
theorem dX5_readPerson_48 : decode cX5_readPerson 48 = .ok (.bipush 23, 2) := by decide +kernel
theorem dX5_readPerson_50 : decode cX5_readPerson 50 = .ok (.invokevirtual 37, 3) := by decide +kernel
theorem dX5_readPerson_53 : decode cX5_readPerson 53 = .ok (.istore 5, 2) := by decide +kernel
theorem dX5_readPerson_55 : decode cX5_readPerson 55 = .ok (.aload_n 0, 1) := by decide +kernel
theorem dX5_readPerson_56 : decode cX5_readPerson 56 = .ok (.bipush 59, 2) := by decide +kernel
theorem dX5_readPerson_58 : decode cX5_readPerson 58 = .ok (.invokevirtual 33, 3) := by decide +kernel
theorem dX5_readPerson_61 : decode cX5_readPerson 61 = .ok (.aload_n 0, 1) := by decide +kernel
theorem dX5_readPerson_62 : decode cX5_readPerson 62 = .ok (.getfield 25, 3) := by decide +kernel
theorem dX5_readPerson_65 : decode cX5_readPerson 65 = .ok (.ifCond .ne 13, 3) := by decide +kernel
theorem dX5_readPerson_68 : decode cX5_readPerson 68 = .ok (.aload_n 1, 1) := by decide +kernel
theorem dX5_readPerson_69 : decode cX5_readPerson 69 = .ok (.iload_n 2, 1) := by decide +kernel
theorem dX5_readPerson_70 : decode cX5_readPerson 70 = .ok (.iload_n 3, 1) := by decide +kernel
theorem dX5_readPerson_71 : decode cX5_readPerson 71 = .ok (.iload 4, 2) := by decide +kernel
theorem dX5_readPerson_73 : decode cX5_readPerson 73 = .ok (.iload 5, 2) := by decide +kernel
theorem dX5_readPerson_75 : decode cX5_readPerson 75 = .ok (.invokevirtual 58, 3) := by decide +kernel
theorem dX5_readPerson_78 : decode cX5_readPerson 78 = .ok (.return_, 1) := by decide +kernel
theorem dX5_readSort_0 : decode cX5_readSort 0 = .ok (.aload_n 0, 1) := by decide +kernel
theorem dX5_readSort_1 : decode cX5_readSort 1 = .ok (.getfield 22, 3) := by decide +kernel
theorem dX5_readSort_4 : decode cX5_readSort 4 = .ok (.aload_n 0, 1) := by decide +kernel
theorem dX5_readSort_5 : decode cX5_readSort 5 = .ok (.getfield 15, 3) := by decide +kernel
theorem dX5_readSort_8 : decode cX5_readSort 8 = .ok (.if_icmp .ge 18, 3) := by decide +kernel
theorem dX5_readSort_11 : decode cX5_readSort 11 = .ok (.aload_n 0, 1) := by decide +kernel
theorem dX5_readSort_12 : decode cX5_readSort 12 = .ok (.getfield 11, 3) := by decide +kernel
theorem dX5_readSort_15 : decode cX5_readSort 15 = .ok (.aload_n 0, 1) := by decide +kernel
theorem dX5_readSort_16 : decode cX5_readSort 16 = .ok (.getfield 22, 3) := by decide +kernel
theorem dX5_readSort_19 : decode cX5_readSort 19 = .ok (.iaload, 1) := by decide +kernel
theorem dX5_readSort_20 : decode cX5_readSort 20 = .ok (.invokestatic 62, 3) := by decide +kernel
theorem dX5_readSort_23 : decode cX5_readSort 23 = .ok (.goto 4, 3) := by decide +kernel
theorem dX5_readSort_26 : decode cX5_readSort 26 = .ok (.iconst 0, 1) := by decide +kernel
theorem dX5_readSort_27 : decode cX5_readSort 27 = .ok (.istore_n 2, 1) := by decide +kernel
theorem dX5_readSort_28 : decode cX5_readSort 28 = .ok (.iload_n 2, 1) := by decide +kernel
theorem dX5_readSort_29 : decode cX5_readSort 29 = .ok (.ifCond .ne 11, 3) := by decide +kernel
theorem dX5_readSort_32 : decode cX5_readSort 32 = .ok (.aload_n 0, 1) := by decide +kernel
theorem dX5_readSort_33 : decode cX5_readSort 33 = .ok (.iconst 1, 1) := by decide +kernel
theorem dX5_readSort_34 : decode cX5_readSort 34 = .ok (.invokevirtual 65, 3) := by decide +kernel
theorem dX5_readSort_37 : decode cX5_readSort 37 = .ok (.goto 14, 3) := by decide +kernel
theorem dX5_readSort_40 : decode cX5_readSort 40 = .ok (.iload_n 1, 1) := by decide +kernel
theorem dX5_readSort_41 : decode cX5_readSort 41 = .ok (.bipush 6, 2) := by decide +kernel
theorem dX5_readSort_43 : decode cX5_readSort 43 = .ok (.if_icmp .lt 8, 3) := by decide +kernel
theorem dX5_readSort_46 : decode cX5_readSort 46 = .ok (.aload_n 0, 1) := by decide +kernel
theorem dX5_readSort_47 : decode cX5_readSort 47 = .ok (.iconst 3, 1) := by decide +kernel
theorem dX5_readSort_48 : decode cX5_readSort 48 = .ok (.invokevirtual 65, 3) := by decide +kernel
theorem dX5_readSort_51 : decode cX5_readSort 51 = .ok (.aload_n 0, 1) := by decide +kernel
theorem dX5_readSort_52 : decode cX5_readSort 52 = .ok (.dup, 1) := by decide +kernel
theorem dX5_readSort_53 : decode cX5_readSort 53 = .ok (.getfield 22, 3) := by decide +kernel
theorem dX5_readSort_56 : decode cX5_readSort 56 = .ok (.iconst 1, 1) := by decide +kernel
theorem dX5_readSort_57 : decode cX5_readSort 57 = .ok (.iadd, 1) := by decide +kernel
theorem dX5_readSort_58 : decode cX5_readSort 58 = .ok (.putfield 22, 3) := by decide +kernel
theorem dX5_readSort_61 : decode cX5_readSort 61 = .ok (.iload_n 2, 1) := by decide +kernel
theorem dX5_readSort_62 : decode cX5_readSort 62 = .ok (.ireturn, 1) := by decide +kernel
theorem dX5_kindOf_0 : decode cX5_kindOf 0 = .ok (.iload_n 0, 1) := by decide +kernel
theorem dX5_kindOf_1 : decode cX5_kindOf 1 = .ok (.lookupswitch 61 #[(98, 59), (99, 53), (100, 55), (109, 57), (119, 51)], 51) := by decide +kernel
theorem dX5_kindOf_52 : decode cX5_kindOf 52 = .ok (.iconst 1, 1) := by decide +kernel
theorem dX5_kindOf_53 : decode cX5_kindOf 53 = .ok (.ireturn, 1) := by decide +kernel
theorem dX5_kindOf_54 : decode cX5_kindOf 54 = .ok (.iconst 2, 1) := by decide +kernel
theorem dX5_kindOf_55 : decode cX5_kindOf 55 = .ok (.ireturn, 1) := by decide +kernel
theorem dX5_kindOf_56 : decode cX5_kindOf 56 = .ok (.iconst 3, 1) := by decide +kernel
theorem dX5_kindOf_57 : decode cX5_kindOf 57 = .ok (.ireturn, 1) := by decide +kernel
theorem dX5_kindOf_58 : decode cX5_kindOf 58 = .ok (.iconst 4, 1) := by decide +kernel
theorem dX5_kindOf_59 : decode cX5_kindOf 59 = .ok (.ireturn, 1) := by decide +kernel
theorem dX5_kindOf_60 : decode cX5_kindOf 60 = .ok (.iconst 5, 1) := by decide +kernel
theorem dX5_kindOf_61 : decode cX5_kindOf 61 = .ok (.ireturn, 1) := by decide +kernel
theorem dX5_kindOf_62 : decode cX5_kindOf 62 = .ok (.iconst 0, 1) := by decide +kernel
theorem dX5_kindOf_63 : decode cX5_kindOf 63 = .ok (.ireturn, 1) := by decide +kernel
theorem dX5_readSign_0 : decode cX5_readSign 0 = .ok (.aload_n 0, 1) := by decide +kernel
theorem dX5_readSign_1 : decode cX5_readSign 1 = .ok (.getfield 22, 3) := by decide +kernel
theorem dX5_readSign_4 : decode cX5_readSign 4 = .ok (.aload_n 0, 1) := by decide +kernel
theorem dX5_readSign_5 : decode cX5_readSign 5 = .ok (.getfield 15, 3) := by decide +kernel
theorem dX5_readSign_8 : decode cX5_readSign 8 = .ok (.if_icmp .ge 16, 3) := by decide +kernel
theorem dX5_readSign_11 : decode cX5_readSign 11 = .ok (.aload_n 0, 1) := by decide +kernel
theorem dX5_readSign_12 : decode cX5_readSign 12 = .ok (.getfield 11, 3) := by decide +kernel
theorem dX5_readSign_15 : decode cX5_readSign 15 = .ok (.aload_n 0, 1) := by decide +kernel
theorem dX5_readSign_16 : decode cX5_readSign 16 = .ok (.getfield 22, 3) := by decide +kernel
theorem dX5_readSign_19 : decode cX5_readSign 19 = .ok (.iaload, 1) := by decide +kernel
theorem dX5_readSign_20 : decode cX5_readSign 20 = .ok (.iload_n 1, 1) := by decide +kernel
theorem dX5_readSign_21 : decode cX5_readSign 21 = .ok (.if_icmp .eq 8, 3) := by decide +kernel
theorem dX5_readSign_24 : decode cX5_readSign 24 = .ok (.aload_n 0, 1) := by decide +kernel
theorem dX5_readSign_25 : decode cX5_readSign 25 = .ok (.iconst 1, 1) := by decide +kernel
theorem dX5_readSign_26 : decode cX5_readSign 26 = .ok (.invokevirtual 65, 3) := by decide +kernel
theorem dX5_readSign_29 : decode cX5_readSign 29 = .ok (.aload_n 0, 1) := by decide +kernel
theorem dX5_readSign_30 : decode cX5_readSign 30 = .ok (.dup, 1) := by decide +kernel
theorem dX5_readSign_31 : decode cX5_readSign 31 = .ok (.getfield 22, 3) := by decide +kernel
theorem dX5_readSign_34 : decode cX5_readSign 34 = .ok (.iconst 1, 1) := by decide +kernel
theorem dX5_readSign_35 : decode cX5_readSign 35 = .ok (.iadd, 1) := by decide +kernel
theorem dX5_readSign_36 : decode cX5_readSign 36 = .ok (.putfield 22, 3) := by decide +kernel
theorem dX5_readSign_39 : decode cX5_readSign 39 = .ok (.return_, 1) := by decide +kernel
theorem dX5_readNumber_0 : decode cX5_readNumber 0 = .ok (.aload_n 0, 1) := by decide +kernel
theorem dX5_readNumber_1 : decode cX5_readNumber 1 = .ok (.getfield 22, 3) := by decide +kernel
theorem dX5_readNumber_4 : decode cX5_readNumber 4 = .ok (.istore_n 3, 1) := by decide +kernel
theorem dX5_readNumber_5 : decode cX5_readNumber 5 = .ok (.iconst 0, 1) := by decide +kernel
theorem dX5_readNumber_6 : decode cX5_readNumber 6 = .ok (.istore 4, 2) := by decide +kernel
theorem dX5_readNumber_8 : decode cX5_readNumber 8 = .ok (.iload_n 3, 1) := by decide +kernel
theorem dX5_readNumber_9 : decode cX5_readNumber 9 = .ok (.istore 5, 2) := by decide +kernel
theorem dX5_readNumber_11 : decode cX5_readNumber 11 = .ok (.iload 5, 2) := by decide +kernel
theorem dX5_readNumber_13 : decode cX5_readNumber 13 = .ok (.aload_n 0, 1) := by decide +kernel
theorem dX5_readNumber_14 : decode cX5_readNumber 14 = .ok (.getfield 15, 3) := by decide +kernel
theorem dX5_readNumber_17 : decode cX5_readNumber 17 = .ok (.if_icmp .ge 60, 3) := by decide +kernel
theorem dX5_readNumber_20 : decode cX5_readNumber 20 = .ok (.aload_n 0, 1) := by decide +kernel
theorem dX5_readNumber_21 : decode cX5_readNumber 21 = .ok (.getfield 11, 3) := by decide +kernel
theorem dX5_readNumber_24 : decode cX5_readNumber 24 = .ok (.iload 5, 2) := by decide +kernel
theorem dX5_readNumber_26 : decode cX5_readNumber 26 = .ok (.iaload, 1) := by decide +kernel
theorem dX5_readNumber_27 : decode cX5_readNumber 27 = .ok (.invokestatic 68, 3) := by decide +kernel
theorem dX5_readNumber_30 : decode cX5_readNumber 30 = .ok (.ifCond .eq 47, 3) := by decide +kernel
theorem dX5_readNumber_33 : decode cX5_readNumber 33 = .ok (.aload_n 0, 1) := by decide +kernel
theorem dX5_readNumber_34 : decode cX5_readNumber 34 = .ok (.getfield 22, 3) := by decide +kernel
theorem dX5_readNumber_37 : decode cX5_readNumber 37 = .ok (.iload_n 3, 1) := by decide +kernel
theorem dX5_readNumber_38 : decode cX5_readNumber 38 = .ok (.isub, 1) := by decide +kernel
theorem dX5_readNumber_39 : decode cX5_readNumber 39 = .ok (.iconst 2, 1) := by decide +kernel
theorem dX5_readNumber_40 : decode cX5_readNumber 40 = .ok (.if_icmp .gt 37, 3) := by decide +kernel
theorem dX5_readNumber_43 : decode cX5_readNumber 43 = .ok (.iload 4, 2) := by decide +kernel
theorem dX5_readNumber_45 : decode cX5_readNumber 45 = .ok (.bipush 10, 2) := by decide +kernel
theorem dX5_readNumber_47 : decode cX5_readNumber 47 = .ok (.imul, 1) := by decide +kernel
theorem dX5_readNumber_48 : decode cX5_readNumber 48 = .ok (.aload_n 0, 1) := by decide +kernel
theorem dX5_readNumber_49 : decode cX5_readNumber 49 = .ok (.getfield 11, 3) := by decide +kernel
theorem dX5_readNumber_52 : decode cX5_readNumber 52 = .ok (.iload 5, 2) := by decide +kernel
theorem dX5_readNumber_54 : decode cX5_readNumber 54 = .ok (.iaload, 1) := by decide +kernel
theorem dX5_readNumber_55 : decode cX5_readNumber 55 = .ok (.iadd, 1) := by decide +kernel
theorem dX5_readNumber_56 : decode cX5_readNumber 56 = .ok (.bipush 48, 2) := by decide +kernel
theorem dX5_readNumber_58 : decode cX5_readNumber 58 = .ok (.isub, 1) := by decide +kernel
theorem dX5_readNumber_59 : decode cX5_readNumber 59 = .ok (.istore 4, 2) := by decide +kernel
theorem dX5_readNumber_61 : decode cX5_readNumber 61 = .ok (.aload_n 0, 1) := by decide +kernel
theorem dX5_readNumber_62 : decode cX5_readNumber 62 = .ok (.dup, 1) := by decide +kernel
theorem dX5_readNumber_63 : decode cX5_readNumber 63 = .ok (.getfield 22, 3) := by decide +kernel
theorem dX5_readNumber_66 : decode cX5_readNumber 66 = .ok (.iconst 1, 1) := by decide +kernel
theorem dX5_readNumber_67 : decode cX5_readNumber 67 = .ok (.iadd, 1) := by decide +kernel
theorem dX5_readNumber_68 : decode cX5_readNumber 68 = .ok (.putfield 22, 3) := by decide +kernel
theorem dX5_readNumber_71 : decode cX5_readNumber 71 = .ok (.iinc 5 1, 3) := by decide +kernel
theorem dX5_readNumber_74 : decode cX5_readNumber 74 = .ok (.goto (-63), 3) := by decide +kernel
theorem dX5_readNumber_77 : decode cX5_readNumber 77 = .ok (.aload_n 0, 1) := by decide +kernel
theorem dX5_readNumber_78 : decode cX5_readNumber 78 = .ok (.getfield 22, 3) := by decide +kernel
theorem dX5_readNumber_81 : decode cX5_readNumber 81 = .ok (.iload_n 3, 1) := by decide +kernel
theorem dX5_readNumber_82 : decode cX5_readNumber 82 = .ok (.isub, 1) := by decide +kernel
theorem dX5_readNumber_83 : decode cX5_readNumber 83 = .ok (.istore 5, 2) := by decide +kernel
theorem dX5_readNumber_85 : decode cX5_readNumber 85 = .ok (.iload 5, 2) := by decide +kernel
theorem dX5_readNumber_87 : decode cX5_readNumber 87 = .ok (.ifCond .eq 9, 3) := by decide +kernel
theorem dX5_readNumber_90 : decode cX5_readNumber 90 = .ok (.iload 5, 2) := by decide +kernel
theorem dX5_readNumber_92 : decode cX5_readNumber 92 = .ok (.iconst 2, 1) := by decide +kernel
theorem dX5_readNumber_93 : decode cX5_readNumber 93 = .ok (.if_icmp .le 12, 3) := by decide +kernel
theorem dX5_readNumber_96 : decode cX5_readNumber 96 = .ok (.aload_n 0, 1) := by decide +kernel
theorem dX5_readNumber_97 : decode cX5_readNumber 97 = .ok (.iconst 1, 1) := by decide +kernel
theorem dX5_readNumber_98 : decode cX5_readNumber 98 = .ok (.iload_n 3, 1) := by decide +kernel
theorem dX5_readNumber_99 : decode cX5_readNumber 99 = .ok (.invokevirtual 72, 3) := by decide +kernel
theorem dX5_readNumber_102 : decode cX5_readNumber 102 = .ok (.goto 19, 3) := by decide +kernel
theorem dX5_readNumber_105 : decode cX5_readNumber 105 = .ok (.iload 4, 2) := by decide +kernel
theorem dX5_readNumber_107 : decode cX5_readNumber 107 = .ok (.iload_n 1, 1) := by decide +kernel
theorem dX5_readNumber_108 : decode cX5_readNumber 108 = .ok (.iload_n 2, 1) := by decide +kernel
theorem dX5_readNumber_109 : decode cX5_readNumber 109 = .ok (.invokestatic 76, 3) := by decide +kernel
theorem dX5_readNumber_112 : decode cX5_readNumber 112 = .ok (.ifCond .ne 9, 3) := by decide +kernel
theorem dX5_readNumber_115 : decode cX5_readNumber 115 = .ok (.aload_n 0, 1) := by decide +kernel
theorem dX5_readNumber_116 : decode cX5_readNumber 116 = .ok (.iconst 2, 1) := by decide +kernel
theorem dX5_readNumber_117 : decode cX5_readNumber 117 = .ok (.iload_n 3, 1) := by decide +kernel
theorem dX5_readNumber_118 : decode cX5_readNumber 118 = .ok (.invokevirtual 72, 3) := by decide +kernel
theorem dX5_readNumber_121 : decode cX5_readNumber 121 = .ok (.iload 4, 2) := by decide +kernel
theorem dX5_readNumber_123 : decode cX5_readNumber 123 = .ok (.ireturn, 1) := by decide +kernel
theorem dX5_isFigure_0 : decode cX5_isFigure 0 = .ok (.iload_n 0, 1) := by decide +kernel
theorem dX5_isFigure_1 : decode cX5_isFigure 1 = .ok (.bipush 48, 2) := by decide +kernel
theorem dX5_isFigure_3 : decode cX5_isFigure 3 = .ok (.if_icmp .lt 13, 3) := by decide +kernel
theorem dX5_isFigure_6 : decode cX5_isFigure 6 = .ok (.iload_n 0, 1) := by decide +kernel
theorem dX5_isFigure_7 : decode cX5_isFigure 7 = .ok (.bipush 57, 2) := by decide +kernel
theorem dX5_isFigure_9 : decode cX5_isFigure 9 = .ok (.if_icmp .gt 7, 3) := by decide +kernel
theorem dX5_isFigure_12 : decode cX5_isFigure 12 = .ok (.iconst 1, 1) := by decide +kernel
theorem dX5_isFigure_13 : decode cX5_isFigure 13 = .ok (.goto 4, 3) := by decide +kernel
theorem dX5_isFigure_16 : decode cX5_isFigure 16 = .ok (.iconst 0, 1) := by decide +kernel
theorem dX5_isFigure_17 : decode cX5_isFigure 17 = .ok (.ireturn, 1) := by decide +kernel
theorem dX5_fail_0 : decode cX5_fail 0 = .ok (.aload_n 0, 1) := by decide +kernel
theorem dX5_fail_1 : decode cX5_fail 1 = .ok (.iload_n 1, 1) := by decide +kernel
theorem dX5_fail_2 : decode cX5_fail 2 = .ok (.aload_n 0, 1) := by decide +kernel
theorem dX5_fail_3 : decode cX5_fail 3 = .ok (.getfield 22, 3) := by decide +kernel
theorem dX5_fail_6 : decode cX5_fail 6 = .ok (.invokevirtual 72, 3) := by decide +kernel
theorem dX5_fail_9 : decode cX5_fail 9 = .ok (.return_, 1) := by decide +kernel
theorem dX5_failAt_0 : decode cX5_failAt 0 = .ok (.aload_n 0, 1) := by decide +kernel
theorem dX5_failAt_1 : decode cX5_failAt 1 = .ok (.getfield 25, 3) := by decide +kernel
theorem dX5_failAt_4 : decode cX5_failAt 4 = .ok (.ifCond .ne 13, 3) := by decide +kernel
theorem dX5_failAt_7 : decode cX5_failAt 7 = .ok (.aload_n 0, 1) := by decide +kernel
theorem dX5_failAt_8 : decode cX5_failAt 8 = .ok (.iload_n 1, 1) := by decide +kernel
theorem dX5_failAt_9 : decode cX5_failAt 9 = .ok (.putfield 25, 3) := by decide +kernel
theorem dX5_failAt_12 : decode cX5_failAt 12 = .ok (.aload_n 0, 1) := by decide +kernel
theorem dX5_failAt_13 : decode cX5_failAt 13 = .ok (.iload_n 2, 1) := by decide +kernel
theorem dX5_failAt_14 : decode cX5_failAt 14 = .ok (.putfield 19, 3) := by decide +kernel
theorem dX5_failAt_17 : decode cX5_failAt 17 = .ok (.return_, 1) := by decide +kernel
theorem dX6_init_0 : decode cX6_init 0 = .ok (.aload_n 0, 1) := by decide +kernel
theorem dX6_init_1 : decode cX6_init 1 = .ok (.invokespecial 3, 3) := by decide +kernel
theorem dX6_init_4 : decode cX6_init 4 = .ok (.aload_n 0, 1) := by decide +kernel
theorem dX6_init_5 : decode cX6_init 5 = .ok (.bipush 6, 2) := by decide +kernel
theorem dX6_init_7 : decode cX6_init 7 = .ok (.newarray .int, 2) := by decide +kernel
theorem dX6_init_9 : decode cX6_init 9 = .ok (.putfield 9, 3) := by decide +kernel
theorem dX6_init_12 : decode cX6_init 12 = .ok (.aload_n 0, 1) := by decide +kernel
theorem dX6_init_13 : decode cX6_init 13 = .ok (.bipush 6, 2) := by decide +kernel
theorem dX6_init_15 : decode cX6_init 15 = .ok (.newarray .int, 2) := by decide +kernel
theorem dX6_init_17 : decode cX6_init 17 = .ok (.putfield 15, 3) := by decide +kernel
theorem dX6_init_20 : decode cX6_init 20 = .ok (.aload_n 0, 1) := by decide +kernel
theorem dX6_init_21 : decode cX6_init 21 = .ok (.bipush 6, 2) := by decide +kernel
theorem dX6_init_23 : decode cX6_init 23 = .ok (.newarray .int, 2) := by decide +kernel
theorem dX6_init_25 : decode cX6_init 25 = .ok (.putfield 18, 3) := by decide +kernel
theorem dX6_init_28 : decode cX6_init 28 = .ok (.aload_n 0, 1) := by decide +kernel
theorem dX6_init_29 : decode cX6_init 29 = .ok (.bipush 6, 2) := by decide +kernel
theorem dX6_init_31 : decode cX6_init 31 = .ok (.newarray .int, 2) := by decide +kernel
theorem dX6_init_33 : decode cX6_init 33 = .ok (.putfield 21, 3) := by decide +kernel
theorem dX6_init_36 : decode cX6_init 36 = .ok (.aload_n 0, 1) := by decide +kernel
theorem dX6_init_37 : decode cX6_init 37 = .ok (.iconst 4, 1) := by decide +kernel
theorem dX6_init_38 : decode cX6_init 38 = .ok (.newarray .int, 2) := by decide +kernel
theorem dX6_init_40 : decode cX6_init 40 = .ok (.putfield 24, 3) := by decide +kernel
theorem dX6_init_43 : decode cX6_init 43 = .ok (.aload_n 0, 1) := by decide +kernel
theorem dX6_init_44 : decode cX6_init 44 = .ok (.iconst 4, 1) := by decide +kernel
theorem dX6_init_45 : decode cX6_init 45 = .ok (.newarray .int, 2) := by decide +kernel
theorem dX6_init_47 : decode cX6_init 47 = .ok (.putfield 27, 3) := by decide +kernel
theorem dX6_init_50 : decode cX6_init 50 = .ok (.return_, 1) := by decide +kernel
theorem dX6_stands_0 : decode cX6_stands 0 = .ok (.aload_n 0, 1) := by decide +kernel
theorem dX6_stands_1 : decode cX6_stands 1 = .ok (.getfield 30, 3) := by decide +kernel
theorem dX6_stands_4 : decode cX6_stands 4 = .ok (.ifCond .le 7, 3) := by decide +kernel
theorem dX6_stands_7 : decode cX6_stands 7 = .ok (.iconst 1, 1) := by decide +kernel
theorem dX6_stands_8 : decode cX6_stands 8 = .ok (.goto 4, 3) := by decide +kernel
theorem dX6_stands_11 : decode cX6_stands 11 = .ok (.iconst 0, 1) := by decide +kernel
theorem dX6_stands_12 : decode cX6_stands 12 = .ok (.ireturn, 1) := by decide +kernel
theorem dX6_clear_0 : decode cX6_clear 0 = .ok (.aload_n 0, 1) := by decide +kernel
theorem dX6_clear_1 : decode cX6_clear 1 = .ok (.iconst 0, 1) := by decide +kernel
theorem dX6_clear_2 : decode cX6_clear 2 = .ok (.putfield 30, 3) := by decide +kernel
theorem dX6_clear_5 : decode cX6_clear 5 = .ok (.aload_n 0, 1) := by decide +kernel
theorem dX6_clear_6 : decode cX6_clear 6 = .ok (.iconst 0, 1) := by decide +kernel
theorem dX6_clear_7 : decode cX6_clear 7 = .ok (.putfield 34, 3) := by decide +kernel
theorem dX6_clear_10 : decode cX6_clear 10 = .ok (.aload_n 0, 1) := by decide +kernel
theorem dX6_clear_11 : decode cX6_clear 11 = .ok (.iconst 0, 1) := by decide +kernel
theorem dX6_clear_12 : decode cX6_clear 12 = .ok (.putfield 37, 3) := by decide +kernel
theorem dX6_clear_15 : decode cX6_clear 15 = .ok (.aload_n 0, 1) := by decide +kernel
theorem dX6_clear_16 : decode cX6_clear 16 = .ok (.iconst 0, 1) := by decide +kernel
theorem dX6_clear_17 : decode cX6_clear 17 = .ok (.putfield 40, 3) := by decide +kernel
theorem dX6_clear_20 : decode cX6_clear 20 = .ok (.aload_n 0, 1) := by decide +kernel
theorem dX6_clear_21 : decode cX6_clear 21 = .ok (.iconst 0, 1) := by decide +kernel
theorem dX6_clear_22 : decode cX6_clear 22 = .ok (.putfield 43, 3) := by decide +kernel
theorem dX6_clear_25 : decode cX6_clear 25 = .ok (.aload_n 0, 1) := by decide +kernel
theorem dX6_clear_26 : decode cX6_clear 26 = .ok (.iconst 0, 1) := by decide +kernel
theorem dX6_clear_27 : decode cX6_clear 27 = .ok (.putfield 46, 3) := by decide +kernel
theorem dX6_clear_30 : decode cX6_clear 30 = .ok (.return_, 1) := by decide +kernel
theorem dX6_take_0 : decode cX6_take 0 = .ok (.aload_n 0, 1) := by decide +kernel
theorem dX6_take_1 : decode cX6_take 1 = .ok (.aload_n 1, 1) := by decide +kernel
theorem dX6_take_2 : decode cX6_take 2 = .ok (.getfield 30, 3) := by decide +kernel
theorem dX6_take_5 : decode cX6_take 5 = .ok (.putfield 30, 3) := by decide +kernel
theorem dX6_take_8 : decode cX6_take 8 = .ok (.aload_n 0, 1) := by decide +kernel
theorem dX6_take_9 : decode cX6_take 9 = .ok (.aload_n 1, 1) := by decide +kernel
theorem dX6_take_10 : decode cX6_take 10 = .ok (.getfield 34, 3) := by decide +kernel
theorem dX6_take_13 : decode cX6_take 13 = .ok (.putfield 34, 3) := by decide +kernel
theorem dX6_take_16 : decode cX6_take 16 = .ok (.aload_n 0, 1) := by decide +kernel
theorem dX6_take_17 : decode cX6_take 17 = .ok (.aload_n 1, 1) := by decide +kernel
theorem dX6_take_18 : decode cX6_take 18 = .ok (.getfield 37, 3) := by decide +kernel
theorem dX6_take_21 : decode cX6_take 21 = .ok (.putfield 37, 3) := by decide +kernel
theorem dX6_take_24 : decode cX6_take 24 = .ok (.aload_n 0, 1) := by decide +kernel
theorem dX6_take_25 : decode cX6_take 25 = .ok (.aload_n 1, 1) := by decide +kernel
theorem dX6_take_26 : decode cX6_take 26 = .ok (.getfield 46, 3) := by decide +kernel
theorem dX6_take_29 : decode cX6_take 29 = .ok (.putfield 46, 3) := by decide +kernel
theorem dX6_take_32 : decode cX6_take 32 = .ok (.iconst 0, 1) := by decide +kernel
theorem dX6_take_33 : decode cX6_take 33 = .ok (.istore_n 2, 1) := by decide +kernel
theorem dX6_take_34 : decode cX6_take 34 = .ok (.iload_n 2, 1) := by decide +kernel
theorem dX6_take_35 : decode cX6_take 35 = .ok (.bipush 6, 2) := by decide +kernel
theorem dX6_take_37 : decode cX6_take 37 = .ok (.if_icmp .ge 57, 3) := by decide +kernel
theorem dX6_take_40 : decode cX6_take 40 = .ok (.aload_n 0, 1) := by decide +kernel
theorem dX6_take_41 : decode cX6_take 41 = .ok (.getfield 9, 3) := by decide +kernel
theorem dX6_take_44 : decode cX6_take 44 = .ok (.iload_n 2, 1) := by decide +kernel
theorem dX6_take_45 : decode cX6_take 45 = .ok (.aload_n 1, 1) := by decide +kernel
theorem dX6_take_46 : decode cX6_take 46 = .ok (.getfield 9, 3) := by decide +kernel
theorem dX6_take_49 : decode cX6_take 49 = .ok (.iload_n 2, 1) := by decide +kernel
theorem dX6_take_50 : decode cX6_take 50 = .ok (.iaload, 1) := by decide +kernel
theorem dX6_take_51 : decode cX6_take 51 = .ok (.iastore, 1) := by decide +kernel
theorem dX6_take_52 : decode cX6_take 52 = .ok (.aload_n 0, 1) := by decide +kernel
theorem dX6_take_53 : decode cX6_take 53 = .ok (.getfield 15, 3) := by decide +kernel
theorem dX6_take_56 : decode cX6_take 56 = .ok (.iload_n 2, 1) := by decide +kernel
theorem dX6_take_57 : decode cX6_take 57 = .ok (.aload_n 1, 1) := by decide +kernel
theorem dX6_take_58 : decode cX6_take 58 = .ok (.getfield 15, 3) := by decide +kernel
theorem dX6_take_61 : decode cX6_take 61 = .ok (.iload_n 2, 1) := by decide +kernel
theorem dX6_take_62 : decode cX6_take 62 = .ok (.iaload, 1) := by decide +kernel
theorem dX6_take_63 : decode cX6_take 63 = .ok (.iastore, 1) := by decide +kernel
theorem dX6_take_64 : decode cX6_take 64 = .ok (.aload_n 0, 1) := by decide +kernel
theorem dX6_take_65 : decode cX6_take 65 = .ok (.getfield 18, 3) := by decide +kernel
theorem dX6_take_68 : decode cX6_take 68 = .ok (.iload_n 2, 1) := by decide +kernel
theorem dX6_take_69 : decode cX6_take 69 = .ok (.aload_n 1, 1) := by decide +kernel
theorem dX6_take_70 : decode cX6_take 70 = .ok (.getfield 18, 3) := by decide +kernel
theorem dX6_take_73 : decode cX6_take 73 = .ok (.iload_n 2, 1) := by decide +kernel
theorem dX6_take_74 : decode cX6_take 74 = .ok (.iaload, 1) := by decide +kernel
theorem dX6_take_75 : decode cX6_take 75 = .ok (.iastore, 1) := by decide +kernel
theorem dX6_take_76 : decode cX6_take 76 = .ok (.aload_n 0, 1) := by decide +kernel
theorem dX6_take_77 : decode cX6_take 77 = .ok (.getfield 21, 3) := by decide +kernel
theorem dX6_take_80 : decode cX6_take 80 = .ok (.iload_n 2, 1) := by decide +kernel
theorem dX6_take_81 : decode cX6_take 81 = .ok (.aload_n 1, 1) := by decide +kernel
theorem dX6_take_82 : decode cX6_take 82 = .ok (.getfield 21, 3) := by decide +kernel
theorem dX6_take_85 : decode cX6_take 85 = .ok (.iload_n 2, 1) := by decide +kernel
theorem dX6_take_86 : decode cX6_take 86 = .ok (.iaload, 1) := by decide +kernel
theorem dX6_take_87 : decode cX6_take 87 = .ok (.iastore, 1) := by decide +kernel
theorem dX6_take_88 : decode cX6_take 88 = .ok (.iinc 2 1, 3) := by decide +kernel
theorem dX6_take_91 : decode cX6_take 91 = .ok (.goto (-57), 3) := by decide +kernel
theorem dX6_take_94 : decode cX6_take 94 = .ok (.aload_n 0, 1) := by decide +kernel
theorem dX6_take_95 : decode cX6_take 95 = .ok (.aload_n 1, 1) := by decide +kernel
theorem dX6_take_96 : decode cX6_take 96 = .ok (.invokevirtual 49, 3) := by decide +kernel
theorem dX6_take_99 : decode cX6_take 99 = .ok (.return_, 1) := by decide +kernel
theorem dX6_takeLetters_0 : decode cX6_takeLetters 0 = .ok (.aload_n 0, 1) := by decide +kernel
theorem dX6_takeLetters_1 : decode cX6_takeLetters 1 = .ok (.aload_n 1, 1) := by decide +kernel
theorem dX6_takeLetters_2 : decode cX6_takeLetters 2 = .ok (.getfield 40, 3) := by decide +kernel
theorem dX6_takeLetters_5 : decode cX6_takeLetters 5 = .ok (.putfield 40, 3) := by decide +kernel
theorem dX6_takeLetters_8 : decode cX6_takeLetters 8 = .ok (.aload_n 0, 1) := by decide +kernel
theorem dX6_takeLetters_9 : decode cX6_takeLetters 9 = .ok (.aload_n 1, 1) := by decide +kernel
theorem dX6_takeLetters_10 : decode cX6_takeLetters 10 = .ok (.getfield 43, 3) := by decide +kernel
theorem dX6_takeLetters_13 : decode cX6_takeLetters 13 = .ok (.putfield 43, 3) := by decide +kernel
theorem dX6_takeLetters_16 : decode cX6_takeLetters 16 = .ok (.iconst 0, 1) := by decide +kernel
theorem dX6_takeLetters_17 : decode cX6_takeLetters 17 = .ok (.istore_n 2, 1) := by decide +kernel
theorem dX6_takeLetters_18 : decode cX6_takeLetters 18 = .ok (.iload_n 2, 1) := by decide +kernel
theorem dX6_takeLetters_19 : decode cX6_takeLetters 19 = .ok (.iconst 4, 1) := by decide +kernel
theorem dX6_takeLetters_20 : decode cX6_takeLetters 20 = .ok (.if_icmp .ge 33, 3) := by decide +kernel
theorem dX6_takeLetters_23 : decode cX6_takeLetters 23 = .ok (.aload_n 0, 1) := by decide +kernel
theorem dX6_takeLetters_24 : decode cX6_takeLetters 24 = .ok (.getfield 24, 3) := by decide +kernel
theorem dX6_takeLetters_27 : decode cX6_takeLetters 27 = .ok (.iload_n 2, 1) := by decide +kernel
theorem dX6_takeLetters_28 : decode cX6_takeLetters 28 = .ok (.aload_n 1, 1) := by decide +kernel
theorem dX6_takeLetters_29 : decode cX6_takeLetters 29 = .ok (.getfield 24, 3) := by decide +kernel
theorem dX6_takeLetters_32 : decode cX6_takeLetters 32 = .ok (.iload_n 2, 1) := by decide +kernel
theorem dX6_takeLetters_33 : decode cX6_takeLetters 33 = .ok (.iaload, 1) := by decide +kernel
theorem dX6_takeLetters_34 : decode cX6_takeLetters 34 = .ok (.iastore, 1) := by decide +kernel
theorem dX6_takeLetters_35 : decode cX6_takeLetters 35 = .ok (.aload_n 0, 1) := by decide +kernel
theorem dX6_takeLetters_36 : decode cX6_takeLetters 36 = .ok (.getfield 27, 3) := by decide +kernel
theorem dX6_takeLetters_39 : decode cX6_takeLetters 39 = .ok (.iload_n 2, 1) := by decide +kernel
theorem dX6_takeLetters_40 : decode cX6_takeLetters 40 = .ok (.aload_n 1, 1) := by decide +kernel
theorem dX6_takeLetters_41 : decode cX6_takeLetters 41 = .ok (.getfield 27, 3) := by decide +kernel
theorem dX6_takeLetters_44 : decode cX6_takeLetters 44 = .ok (.iload_n 2, 1) := by decide +kernel
theorem dX6_takeLetters_45 : decode cX6_takeLetters 45 = .ok (.iaload, 1) := by decide +kernel
theorem dX6_takeLetters_46 : decode cX6_takeLetters 46 = .ok (.iastore, 1) := by decide +kernel
theorem dX6_takeLetters_47 : decode cX6_takeLetters 47 = .ok (.iinc 2 1, 3) := by decide +kernel
theorem dX6_takeLetters_50 : decode cX6_takeLetters 50 = .ok (.goto (-32), 3) := by decide +kernel
theorem dX6_takeLetters_53 : decode cX6_takeLetters 53 = .ok (.return_, 1) := by decide +kernel
theorem dX6_settle_0 : decode cX6_settle 0 = .ok (.aload_n 0, 1) := by decide +kernel
theorem dX6_settle_1 : decode cX6_settle 1 = .ok (.getfield 37, 3) := by decide +kernel
theorem dX6_settle_4 : decode cX6_settle 4 = .ok (.bipush 6, 2) := by decide +kernel
theorem dX6_settle_6 : decode cX6_settle 6 = .ok (.if_icmp .ge 54, 3) := by decide +kernel
theorem dX6_settle_9 : decode cX6_settle 9 = .ok (.aload_n 0, 1) := by decide +kernel
theorem dX6_settle_10 : decode cX6_settle 10 = .ok (.getfield 9, 3) := by decide +kernel
theorem dX6_settle_13 : decode cX6_settle 13 = .ok (.aload_n 0, 1) := by decide +kernel
theorem dX6_settle_14 : decode cX6_settle 14 = .ok (.getfield 37, 3) := by decide +kernel
theorem dX6_settle_17 : decode cX6_settle 17 = .ok (.iload_n 1, 1) := by decide +kernel
theorem dX6_settle_18 : decode cX6_settle 18 = .ok (.iastore, 1) := by decide +kernel
theorem dX6_settle_19 : decode cX6_settle 19 = .ok (.aload_n 0, 1) := by decide +kernel
theorem dX6_settle_20 : decode cX6_settle 20 = .ok (.getfield 15, 3) := by decide +kernel
theorem dX6_settle_23 : decode cX6_settle 23 = .ok (.aload_n 0, 1) := by decide +kernel
theorem dX6_settle_24 : decode cX6_settle 24 = .ok (.getfield 37, 3) := by decide +kernel
theorem dX6_settle_27 : decode cX6_settle 27 = .ok (.iload_n 2, 1) := by decide +kernel
theorem dX6_settle_28 : decode cX6_settle 28 = .ok (.iastore, 1) := by decide +kernel
theorem dX6_settle_29 : decode cX6_settle 29 = .ok (.aload_n 0, 1) := by decide +kernel
theorem dX6_settle_30 : decode cX6_settle 30 = .ok (.getfield 18, 3) := by decide +kernel
theorem dX6_settle_33 : decode cX6_settle 33 = .ok (.aload_n 0, 1) := by decide +kernel
theorem dX6_settle_34 : decode cX6_settle 34 = .ok (.getfield 37, 3) := by decide +kernel
theorem dX6_settle_37 : decode cX6_settle 37 = .ok (.iload_n 3, 1) := by decide +kernel
theorem dX6_settle_38 : decode cX6_settle 38 = .ok (.iastore, 1) := by decide +kernel
theorem dX6_settle_39 : decode cX6_settle 39 = .ok (.aload_n 0, 1) := by decide +kernel
theorem dX6_settle_40 : decode cX6_settle 40 = .ok (.getfield 21, 3) := by decide +kernel
theorem dX6_settle_43 : decode cX6_settle 43 = .ok (.aload_n 0, 1) := by decide +kernel
theorem dX6_settle_44 : decode cX6_settle 44 = .ok (.getfield 37, 3) := by decide +kernel
theorem dX6_settle_47 : decode cX6_settle 47 = .ok (.iload 4, 2) := by decide +kernel
theorem dX6_settle_49 : decode cX6_settle 49 = .ok (.iastore, 1) := by decide +kernel
theorem dX6_settle_50 : decode cX6_settle 50 = .ok (.aload_n 0, 1) := by decide +kernel
theorem dX6_settle_51 : decode cX6_settle 51 = .ok (.dup, 1) := by decide +kernel
theorem dX6_settle_52 : decode cX6_settle 52 = .ok (.getfield 37, 3) := by decide +kernel
theorem dX6_settle_55 : decode cX6_settle 55 = .ok (.iconst 1, 1) := by decide +kernel
theorem dX6_settle_56 : decode cX6_settle 56 = .ok (.iadd, 1) := by decide +kernel
theorem dX6_settle_57 : decode cX6_settle 57 = .ok (.putfield 37, 3) := by decide +kernel
theorem dX6_settle_60 : decode cX6_settle 60 = .ok (.return_, 1) := by decide +kernel
theorem dX6_putOut_0 : decode cX6_putOut 0 = .ok (.aload_n 0, 1) := by decide +kernel
theorem dX6_putOut_1 : decode cX6_putOut 1 = .ok (.dup, 1) := by decide +kernel
theorem dX6_putOut_2 : decode cX6_putOut 2 = .ok (.getfield 43, 3) := by decide +kernel
theorem dX6_putOut_5 : decode cX6_putOut 5 = .ok (.iconst 1, 1) := by decide +kernel
theorem dX6_putOut_6 : decode cX6_putOut 6 = .ok (.iload_n 1, 1) := by decide +kernel
theorem dX6_putOut_7 : decode cX6_putOut 7 = .ok (.ishl, 1) := by decide +kernel
theorem dX6_putOut_8 : decode cX6_putOut 8 = .ok (.ior, 1) := by decide +kernel
theorem dX6_putOut_9 : decode cX6_putOut 9 = .ok (.putfield 43, 3) := by decide +kernel
theorem dX6_putOut_12 : decode cX6_putOut 12 = .ok (.aload_n 0, 1) := by decide +kernel
theorem dX6_putOut_13 : decode cX6_putOut 13 = .ok (.getfield 24, 3) := by decide +kernel
theorem dX6_putOut_16 : decode cX6_putOut 16 = .ok (.iload_n 1, 1) := by decide +kernel
theorem dX6_putOut_17 : decode cX6_putOut 17 = .ok (.iload_n 2, 1) := by decide +kernel
theorem dX6_putOut_18 : decode cX6_putOut 18 = .ok (.iastore, 1) := by decide +kernel
theorem dX6_putOut_19 : decode cX6_putOut 19 = .ok (.aload_n 0, 1) := by decide +kernel
theorem dX6_putOut_20 : decode cX6_putOut 20 = .ok (.getfield 27, 3) := by decide +kernel
theorem dX6_putOut_23 : decode cX6_putOut 23 = .ok (.iload_n 1, 1) := by decide +kernel
theorem dX6_putOut_24 : decode cX6_putOut 24 = .ok (.iload_n 3, 1) := by decide +kernel
theorem dX6_putOut_25 : decode cX6_putOut 25 = .ok (.iastore, 1) := by decide +kernel
theorem dX6_putOut_26 : decode cX6_putOut 26 = .ok (.return_, 1) := by decide +kernel
theorem dX6_isOut_0 : decode cX6_isOut 0 = .ok (.aload_n 0, 1) := by decide +kernel
theorem dX6_isOut_1 : decode cX6_isOut 1 = .ok (.getfield 43, 3) := by decide +kernel
theorem dX6_isOut_4 : decode cX6_isOut 4 = .ok (.iload_n 1, 1) := by decide +kernel
theorem dX6_isOut_5 : decode cX6_isOut 5 = .ok (.ishr, 1) := by decide +kernel
theorem dX6_isOut_6 : decode cX6_isOut 6 = .ok (.iconst 1, 1) := by decide +kernel
theorem dX6_isOut_7 : decode cX6_isOut 7 = .ok (.iand, 1) := by decide +kernel
theorem dX6_isOut_8 : decode cX6_isOut 8 = .ok (.iconst 1, 1) := by decide +kernel
theorem dX6_isOut_9 : decode cX6_isOut 9 = .ok (.if_icmp .ne 7, 3) := by decide +kernel
theorem dX6_isOut_12 : decode cX6_isOut 12 = .ok (.iconst 1, 1) := by decide +kernel
theorem dX6_isOut_13 : decode cX6_isOut 13 = .ok (.goto 4, 3) := by decide +kernel
theorem dX6_isOut_16 : decode cX6_isOut 16 = .ok (.iconst 0, 1) := by decide +kernel
theorem dX6_isOut_17 : decode cX6_isOut 17 = .ok (.ireturn, 1) := by decide +kernel
theorem dX6_isThere_0 : decode cX6_isThere 0 = .ok (.aload_n 0, 1) := by decide +kernel
theorem dX6_isThere_1 : decode cX6_isThere 1 = .ok (.getfield 43, 3) := by decide +kernel
theorem dX6_isThere_4 : decode cX6_isThere 4 = .ok (.iload_n 1, 1) := by decide +kernel
theorem dX6_isThere_5 : decode cX6_isThere 5 = .ok (.ishr, 1) := by decide +kernel
theorem dX6_isThere_6 : decode cX6_isThere 6 = .ok (.iconst 1, 1) := by decide +kernel
theorem dX6_isThere_7 : decode cX6_isThere 7 = .ok (.iand, 1) := by decide +kernel
theorem dX6_isThere_8 : decode cX6_isThere 8 = .ok (.iconst 1, 1) := by decide +kernel
theorem dX6_isThere_9 : decode cX6_isThere 9 = .ok (.if_icmp .ne 22, 3) := by decide +kernel
theorem dX6_isThere_12 : decode cX6_isThere 12 = .ok (.aload_n 0, 1) := by decide +kernel
theorem dX6_isThere_13 : decode cX6_isThere 13 = .ok (.getfield 24, 3) := by decide +kernel
theorem dX6_isThere_16 : decode cX6_isThere 16 = .ok (.iload_n 1, 1) := by decide +kernel
theorem dX6_isThere_17 : decode cX6_isThere 17 = .ok (.iaload, 1) := by decide +kernel
theorem dX6_isThere_18 : decode cX6_isThere 18 = .ok (.aload_n 0, 1) := by decide +kernel
theorem dX6_isThere_19 : decode cX6_isThere 19 = .ok (.getfield 27, 3) := by decide +kernel
theorem dX6_isThere_22 : decode cX6_isThere 22 = .ok (.iload_n 1, 1) := by decide +kernel
theorem dX6_isThere_23 : decode cX6_isThere 23 = .ok (.iaload, 1) := by decide +kernel
theorem dX6_isThere_24 : decode cX6_isThere 24 = .ok (.if_icmp .ne 7, 3) := by decide +kernel
theorem dX6_isThere_27 : decode cX6_isThere 27 = .ok (.iconst 1, 1) := by decide +kernel
theorem dX6_isThere_28 : decode cX6_isThere 28 = .ok (.goto 4, 3) := by decide +kernel
theorem dX6_isThere_31 : decode cX6_isThere 31 = .ok (.iconst 0, 1) := by decide +kernel
theorem dX6_isThere_32 : decode cX6_isThere 32 = .ok (.ireturn, 1) := by decide +kernel
theorem dX6_isUnderWay_0 : decode cX6_isUnderWay 0 = .ok (.aload_n 0, 1) := by decide +kernel
theorem dX6_isUnderWay_1 : decode cX6_isUnderWay 1 = .ok (.getfield 43, 3) := by decide +kernel
theorem dX6_isUnderWay_4 : decode cX6_isUnderWay 4 = .ok (.iload_n 1, 1) := by decide +kernel
theorem dX6_isUnderWay_5 : decode cX6_isUnderWay 5 = .ok (.ishr, 1) := by decide +kernel
theorem dX6_isUnderWay_6 : decode cX6_isUnderWay 6 = .ok (.iconst 1, 1) := by decide +kernel
theorem dX6_isUnderWay_7 : decode cX6_isUnderWay 7 = .ok (.iand, 1) := by decide +kernel
theorem dX6_isUnderWay_8 : decode cX6_isUnderWay 8 = .ok (.iconst 1, 1) := by decide +kernel
theorem dX6_isUnderWay_9 : decode cX6_isUnderWay 9 = .ok (.if_icmp .ne 22, 3) := by decide +kernel
theorem dX6_isUnderWay_12 : decode cX6_isUnderWay 12 = .ok (.aload_n 0, 1) := by decide +kernel
theorem dX6_isUnderWay_13 : decode cX6_isUnderWay 13 = .ok (.getfield 24, 3) := by decide +kernel
theorem dX6_isUnderWay_16 : decode cX6_isUnderWay 16 = .ok (.iload_n 1, 1) := by decide +kernel
theorem dX6_isUnderWay_17 : decode cX6_isUnderWay 17 = .ok (.iaload, 1) := by decide +kernel
theorem dX6_isUnderWay_18 : decode cX6_isUnderWay 18 = .ok (.aload_n 0, 1) := by decide +kernel
theorem dX6_isUnderWay_19 : decode cX6_isUnderWay 19 = .ok (.getfield 27, 3) := by decide +kernel
theorem dX6_isUnderWay_22 : decode cX6_isUnderWay 22 = .ok (.iload_n 1, 1) := by decide +kernel
theorem dX6_isUnderWay_23 : decode cX6_isUnderWay 23 = .ok (.iaload, 1) := by decide +kernel
theorem dX6_isUnderWay_24 : decode cX6_isUnderWay 24 = .ok (.if_icmp .eq 7, 3) := by decide +kernel
theorem dX6_isUnderWay_27 : decode cX6_isUnderWay 27 = .ok (.iconst 1, 1) := by decide +kernel
theorem dX6_isUnderWay_28 : decode cX6_isUnderWay 28 = .ok (.goto 4, 3) := by decide +kernel
theorem dX6_isUnderWay_31 : decode cX6_isUnderWay 31 = .ok (.iconst 0, 1) := by decide +kernel
theorem dX6_isUnderWay_32 : decode cX6_isUnderWay 32 = .ok (.ireturn, 1) := by decide +kernel
theorem dX6_arrived_0 : decode cX6_arrived 0 = .ok (.iconst 0, 1) := by decide +kernel
theorem dX6_arrived_1 : decode cX6_arrived 1 = .ok (.istore_n 1, 1) := by decide +kernel
theorem dX6_arrived_2 : decode cX6_arrived 2 = .ok (.iconst 0, 1) := by decide +kernel
theorem dX6_arrived_3 : decode cX6_arrived 3 = .ok (.istore_n 2, 1) := by decide +kernel
theorem dX6_arrived_4 : decode cX6_arrived 4 = .ok (.iload_n 2, 1) := by decide +kernel
theorem dX6_arrived_5 : decode cX6_arrived 5 = .ok (.iconst 4, 1) := by decide +kernel
theorem dX6_arrived_6 : decode cX6_arrived 6 = .ok (.if_icmp .ge 27, 3) := by decide +kernel
theorem dX6_arrived_9 : decode cX6_arrived 9 = .ok (.iload_n 1, 1) := by decide +kernel
theorem dX6_arrived_10 : decode cX6_arrived 10 = .ok (.aload_n 0, 1) := by decide +kernel
theorem dX6_arrived_11 : decode cX6_arrived 11 = .ok (.iload_n 2, 1) := by decide +kernel
theorem dX6_arrived_12 : decode cX6_arrived 12 = .ok (.invokevirtual 53, 3) := by decide +kernel
theorem dX6_arrived_15 : decode cX6_arrived 15 = .ok (.ifCond .eq 9, 3) := by decide +kernel
theorem dX6_arrived_18 : decode cX6_arrived 18 = .ok (.iconst 1, 1) := by decide +kernel
theorem dX6_arrived_19 : decode cX6_arrived 19 = .ok (.iload_n 2, 1) := by decide +kernel
theorem dX6_arrived_20 : decode cX6_arrived 20 = .ok (.ishl, 1) := by decide +kernel
theorem dX6_arrived_21 : decode cX6_arrived 21 = .ok (.goto 4, 3) := by decide +kernel
theorem dX6_arrived_24 : decode cX6_arrived 24 = .ok (.iconst 0, 1) := by decide +kernel
theorem dX6_arrived_25 : decode cX6_arrived 25 = .ok (.ior, 1) := by decide +kernel
theorem dX6_arrived_26 : decode cX6_arrived 26 = .ok (.istore_n 1, 1) := by decide +kernel
theorem dX6_arrived_27 : decode cX6_arrived 27 = .ok (.iinc 2 1, 3) := by decide +kernel
theorem dX6_arrived_30 : decode cX6_arrived 30 = .ok (.goto (-26), 3) := by decide +kernel
theorem dX6_arrived_33 : decode cX6_arrived 33 = .ok (.iload_n 1, 1) := by decide +kernel
theorem dX6_arrived_34 : decode cX6_arrived 34 = .ok (.ireturn, 1) := by decide +kernel
theorem dX6_isHome_0 : decode cX6_isHome 0 = .ok (.aload_n 0, 1) := by decide +kernel
theorem dX6_isHome_1 : decode cX6_isHome 1 = .ok (.getfield 46, 3) := by decide +kernel
theorem dX6_isHome_4 : decode cX6_isHome 4 = .ok (.iload_n 1, 1) := by decide +kernel
theorem dX6_isHome_5 : decode cX6_isHome 5 = .ok (.ishr, 1) := by decide +kernel
theorem dX6_isHome_6 : decode cX6_isHome 6 = .ok (.iconst 1, 1) := by decide +kernel
theorem dX6_isHome_7 : decode cX6_isHome 7 = .ok (.iand, 1) := by decide +kernel
theorem dX6_isHome_8 : decode cX6_isHome 8 = .ok (.iconst 1, 1) := by decide +kernel
theorem dX6_isHome_9 : decode cX6_isHome 9 = .ok (.if_icmp .ne 7, 3) := by decide +kernel
theorem dX6_isHome_12 : decode cX6_isHome 12 = .ok (.iconst 1, 1) := by decide +kernel
theorem dX6_isHome_13 : decode cX6_isHome 13 = .ok (.goto 4, 3) := by decide +kernel
theorem dX6_isHome_16 : decode cX6_isHome 16 = .ok (.iconst 0, 1) := by decide +kernel
theorem dX6_isHome_17 : decode cX6_isHome 17 = .ok (.ireturn, 1) := by decide +kernel
theorem dX6_everybody_0 : decode cX6_everybody 0 = .ok (.iconst 1, 1) := by decide +kernel
theorem dX6_everybody_1 : decode cX6_everybody 1 = .ok (.aload_n 0, 1) := by decide +kernel
theorem dX6_everybody_2 : decode cX6_everybody 2 = .ok (.getfield 37, 3) := by decide +kernel
theorem dX6_everybody_5 : decode cX6_everybody 5 = .ok (.ishl, 1) := by decide +kernel
theorem dX6_everybody_6 : decode cX6_everybody 6 = .ok (.iconst 1, 1) := by decide +kernel
theorem dX6_everybody_7 : decode cX6_everybody 7 = .ok (.isub, 1) := by decide +kernel
theorem dX6_everybody_8 : decode cX6_everybody 8 = .ok (.ireturn, 1) := by decide +kernel
theorem dX6_whereIs_0 : decode cX6_whereIs 0 = .ok (.aload_n 0, 1) := by decide +kernel
theorem dX6_whereIs_1 : decode cX6_whereIs 1 = .ok (.iload_n 1, 1) := by decide +kernel
theorem dX6_whereIs_2 : decode cX6_whereIs 2 = .ok (.invokevirtual 57, 3) := by decide +kernel
theorem dX6_whereIs_5 : decode cX6_whereIs 5 = .ok (.ifCond .eq 12, 3) := by decide +kernel
theorem dX6_whereIs_8 : decode cX6_whereIs 8 = .ok (.aload_n 0, 1) := by decide +kernel
theorem dX6_whereIs_9 : decode cX6_whereIs 9 = .ok (.getfield 15, 3) := by decide +kernel
theorem dX6_whereIs_12 : decode cX6_whereIs 12 = .ok (.iload_n 1, 1) := by decide +kernel
theorem dX6_whereIs_13 : decode cX6_whereIs 13 = .ok (.iaload, 1) := by decide +kernel
theorem dX6_whereIs_14 : decode cX6_whereIs 14 = .ok (.goto 14, 3) := by decide +kernel
theorem dX6_whereIs_17 : decode cX6_whereIs 17 = .ok (.aload_n 0, 1) := by decide +kernel
theorem dX6_whereIs_18 : decode cX6_whereIs 18 = .ok (.iload_n 1, 1) := by decide +kernel
theorem dX6_whereIs_19 : decode cX6_whereIs 19 = .ok (.aload_n 0, 1) := by decide +kernel
theorem dX6_whereIs_20 : decode cX6_whereIs 20 = .ok (.getfield 40, 3) := by decide +kernel
theorem dX6_whereIs_23 : decode cX6_whereIs 23 = .ok (.iload_n 2, 1) := by decide +kernel
theorem dX6_whereIs_24 : decode cX6_whereIs 24 = .ok (.iadd, 1) := by decide +kernel
theorem dX6_whereIs_25 : decode cX6_whereIs 25 = .ok (.invokevirtual 60, 3) := by decide +kernel
theorem dX6_whereIs_28 : decode cX6_whereIs 28 = .ok (.ireturn, 1) := by decide +kernel
theorem dX6_peopleIn_0 : decode cX6_peopleIn 0 = .ok (.iconst 0, 1) := by decide +kernel
theorem dX6_peopleIn_1 : decode cX6_peopleIn 1 = .ok (.istore_n 2, 1) := by decide +kernel
theorem dX6_peopleIn_2 : decode cX6_peopleIn 2 = .ok (.iconst 0, 1) := by decide +kernel
theorem dX6_peopleIn_3 : decode cX6_peopleIn 3 = .ok (.istore_n 3, 1) := by decide +kernel
theorem dX6_peopleIn_4 : decode cX6_peopleIn 4 = .ok (.iload_n 3, 1) := by decide +kernel
theorem dX6_peopleIn_5 : decode cX6_peopleIn 5 = .ok (.aload_n 0, 1) := by decide +kernel
theorem dX6_peopleIn_6 : decode cX6_peopleIn 6 = .ok (.getfield 37, 3) := by decide +kernel
theorem dX6_peopleIn_9 : decode cX6_peopleIn 9 = .ok (.if_icmp .ge 29, 3) := by decide +kernel
theorem dX6_peopleIn_12 : decode cX6_peopleIn 12 = .ok (.iload_n 2, 1) := by decide +kernel
theorem dX6_peopleIn_13 : decode cX6_peopleIn 13 = .ok (.aload_n 0, 1) := by decide +kernel
theorem dX6_peopleIn_14 : decode cX6_peopleIn 14 = .ok (.iload_n 3, 1) := by decide +kernel
theorem dX6_peopleIn_15 : decode cX6_peopleIn 15 = .ok (.iconst 0, 1) := by decide +kernel
theorem dX6_peopleIn_16 : decode cX6_peopleIn 16 = .ok (.invokevirtual 64, 3) := by decide +kernel
theorem dX6_peopleIn_19 : decode cX6_peopleIn 19 = .ok (.iload_n 1, 1) := by decide +kernel
theorem dX6_peopleIn_20 : decode cX6_peopleIn 20 = .ok (.if_icmp .ne 9, 3) := by decide +kernel
theorem dX6_peopleIn_23 : decode cX6_peopleIn 23 = .ok (.iconst 1, 1) := by decide +kernel
theorem dX6_peopleIn_24 : decode cX6_peopleIn 24 = .ok (.iload_n 3, 1) := by decide +kernel
theorem dX6_peopleIn_25 : decode cX6_peopleIn 25 = .ok (.ishl, 1) := by decide +kernel
theorem dX6_peopleIn_26 : decode cX6_peopleIn 26 = .ok (.goto 4, 3) := by decide +kernel
theorem dX6_peopleIn_29 : decode cX6_peopleIn 29 = .ok (.iconst 0, 1) := by decide +kernel
theorem dX6_peopleIn_30 : decode cX6_peopleIn 30 = .ok (.ior, 1) := by decide +kernel
theorem dX6_peopleIn_31 : decode cX6_peopleIn 31 = .ok (.istore_n 2, 1) := by decide +kernel
theorem dX6_peopleIn_32 : decode cX6_peopleIn 32 = .ok (.iinc 3 1, 3) := by decide +kernel
theorem dX6_peopleIn_35 : decode cX6_peopleIn 35 = .ok (.goto (-31), 3) := by decide +kernel
theorem dX6_peopleIn_38 : decode cX6_peopleIn 38 = .ok (.iload_n 2, 1) := by decide +kernel
theorem dX6_peopleIn_39 : decode cX6_peopleIn 39 = .ok (.ireturn, 1) := by decide +kernel
theorem dX6_placeOnErrand_0 : decode cX6_placeOnErrand 0 = .ok (.aload_n 0, 1) := by decide +kernel
theorem dX6_placeOnErrand_1 : decode cX6_placeOnErrand 1 = .ok (.getfield 34, 3) := by decide +kernel
theorem dX6_placeOnErrand_4 : decode cX6_placeOnErrand 4 = .ok (.iconst 1, 1) := by decide +kernel
theorem dX6_placeOnErrand_5 : decode cX6_placeOnErrand 5 = .ok (.if_icmp .ge 10, 3) := by decide +kernel
theorem dX6_placeOnErrand_8 : decode cX6_placeOnErrand 8 = .ok (.aload_n 0, 1) := by decide +kernel
theorem dX6_placeOnErrand_9 : decode cX6_placeOnErrand 9 = .ok (.getfield 15, 3) := by decide +kernel
theorem dX6_placeOnErrand_12 : decode cX6_placeOnErrand 12 = .ok (.iload_n 1, 1) := by decide +kernel
theorem dX6_placeOnErrand_13 : decode cX6_placeOnErrand 13 = .ok (.iaload, 1) := by decide +kernel
theorem dX6_placeOnErrand_14 : decode cX6_placeOnErrand 14 = .ok (.ireturn, 1) := by decide +kernel
theorem dX6_placeOnErrand_15 : decode cX6_placeOnErrand 15 = .ok (.iload_n 2, 1) := by decide +kernel
theorem dX6_placeOnErrand_16 : decode cX6_placeOnErrand 16 = .ok (.aload_n 0, 1) := by decide +kernel
theorem dX6_placeOnErrand_17 : decode cX6_placeOnErrand 17 = .ok (.getfield 34, 3) := by decide +kernel
theorem dX6_placeOnErrand_20 : decode cX6_placeOnErrand 20 = .ok (.irem, 1) := by decide +kernel
theorem dX6_placeOnErrand_21 : decode cX6_placeOnErrand 21 = .ok (.aload_n 0, 1) := by decide +kernel
theorem dX6_placeOnErrand_22 : decode cX6_placeOnErrand 22 = .ok (.getfield 21, 3) := by decide +kernel
theorem dX6_placeOnErrand_25 : decode cX6_placeOnErrand 25 = .ok (.iload_n 1, 1) := by decide +kernel
theorem dX6_placeOnErrand_26 : decode cX6_placeOnErrand 26 = .ok (.iaload, 1) := by decide +kernel
theorem dX6_placeOnErrand_27 : decode cX6_placeOnErrand 27 = .ok (.isub, 1) := by decide +kernel
theorem dX6_placeOnErrand_28 : decode cX6_placeOnErrand 28 = .ok (.iconst 0, 1) := by decide +kernel
theorem dX6_placeOnErrand_29 : decode cX6_placeOnErrand 29 = .ok (.invokestatic 67, 3) := by decide +kernel
theorem dX6_placeOnErrand_32 : decode cX6_placeOnErrand 32 = .ok (.istore_n 3, 1) := by decide +kernel
theorem dX6_placeOnErrand_33 : decode cX6_placeOnErrand 33 = .ok (.iload_n 2, 1) := by decide +kernel
theorem dX6_placeOnErrand_34 : decode cX6_placeOnErrand 34 = .ok (.aload_n 0, 1) := by decide +kernel
theorem dX6_placeOnErrand_35 : decode cX6_placeOnErrand 35 = .ok (.getfield 34, 3) := by decide +kernel
theorem dX6_placeOnErrand_38 : decode cX6_placeOnErrand 38 = .ok (.idiv, 1) := by decide +kernel
theorem dX6_placeOnErrand_39 : decode cX6_placeOnErrand 39 = .ok (.iconst 2, 1) := by decide +kernel
theorem dX6_placeOnErrand_40 : decode cX6_placeOnErrand 40 = .ok (.irem, 1) := by decide +kernel
theorem dX6_placeOnErrand_41 : decode cX6_placeOnErrand 41 = .ok (.iconst 1, 1) := by decide +kernel
theorem dX6_placeOnErrand_42 : decode cX6_placeOnErrand 42 = .ok (.if_icmp .ne 7, 3) := by decide +kernel
theorem dX6_placeOnErrand_45 : decode cX6_placeOnErrand 45 = .ok (.iconst 1, 1) := by decide +kernel
theorem dX6_placeOnErrand_46 : decode cX6_placeOnErrand 46 = .ok (.goto 4, 3) := by decide +kernel
theorem dX6_placeOnErrand_49 : decode cX6_placeOnErrand 49 = .ok (.iconst 0, 1) := by decide +kernel
theorem dX6_placeOnErrand_50 : decode cX6_placeOnErrand 50 = .ok (.istore 4, 2) := by decide +kernel
theorem dX6_placeOnErrand_52 : decode cX6_placeOnErrand 52 = .ok (.aload_n 0, 1) := by decide +kernel
theorem dX6_placeOnErrand_53 : decode cX6_placeOnErrand 53 = .ok (.getfield 18, 3) := by decide +kernel
theorem dX6_placeOnErrand_56 : decode cX6_placeOnErrand 56 = .ok (.iload_n 1, 1) := by decide +kernel
theorem dX6_placeOnErrand_57 : decode cX6_placeOnErrand 57 = .ok (.iaload, 1) := by decide +kernel
theorem dX6_placeOnErrand_58 : decode cX6_placeOnErrand 58 = .ok (.aload_n 0, 1) := by decide +kernel
theorem dX6_placeOnErrand_59 : decode cX6_placeOnErrand 59 = .ok (.getfield 15, 3) := by decide +kernel
theorem dX6_placeOnErrand_62 : decode cX6_placeOnErrand 62 = .ok (.iload_n 1, 1) := by decide +kernel
theorem dX6_placeOnErrand_63 : decode cX6_placeOnErrand 63 = .ok (.iaload, 1) := by decide +kernel
theorem dX6_placeOnErrand_64 : decode cX6_placeOnErrand 64 = .ok (.isub, 1) := by decide +kernel
theorem dX6_placeOnErrand_65 : decode cX6_placeOnErrand 65 = .ok (.istore 5, 2) := by decide +kernel
theorem dX6_placeOnErrand_67 : decode cX6_placeOnErrand 67 = .ok (.aload_n 0, 1) := by decide +kernel
theorem dX6_placeOnErrand_68 : decode cX6_placeOnErrand 68 = .ok (.getfield 9, 3) := by decide +kernel
theorem dX6_placeOnErrand_71 : decode cX6_placeOnErrand 71 = .ok (.iload_n 1, 1) := by decide +kernel
theorem dX6_placeOnErrand_72 : decode cX6_placeOnErrand 72 = .ok (.iaload, 1) := by decide +kernel
theorem dX6_placeOnErrand_73 : decode cX6_placeOnErrand 73 = .ok (.iload_n 3, 1) := by decide +kernel
theorem dX6_placeOnErrand_74 : decode cX6_placeOnErrand 74 = .ok (.iload 4, 2) := by decide +kernel
theorem dX6_placeOnErrand_76 : decode cX6_placeOnErrand 76 = .ok (.invokestatic 72, 3) := by decide +kernel
theorem dX6_placeOnErrand_79 : decode cX6_placeOnErrand 79 = .ok (.iload 5, 2) := by decide +kernel
theorem dX6_placeOnErrand_81 : decode cX6_placeOnErrand 81 = .ok (.invokestatic 76, 3) := by decide +kernel
theorem dX6_placeOnErrand_84 : decode cX6_placeOnErrand 84 = .ok (.invokestatic 80, 3) := by decide +kernel
theorem dX6_placeOnErrand_87 : decode cX6_placeOnErrand 87 = .ok (.istore 6, 2) := by decide +kernel
theorem dX6_placeOnErrand_89 : decode cX6_placeOnErrand 89 = .ok (.iload 5, 2) := by decide +kernel
theorem dX6_placeOnErrand_91 : decode cX6_placeOnErrand 91 = .ok (.ifCond .ge 15, 3) := by decide +kernel
theorem dX6_placeOnErrand_94 : decode cX6_placeOnErrand 94 = .ok (.aload_n 0, 1) := by decide +kernel
theorem dX6_placeOnErrand_95 : decode cX6_placeOnErrand 95 = .ok (.getfield 15, 3) := by decide +kernel
theorem dX6_placeOnErrand_98 : decode cX6_placeOnErrand 98 = .ok (.iload_n 1, 1) := by decide +kernel
theorem dX6_placeOnErrand_99 : decode cX6_placeOnErrand 99 = .ok (.iaload, 1) := by decide +kernel
theorem dX6_placeOnErrand_100 : decode cX6_placeOnErrand 100 = .ok (.iload 6, 2) := by decide +kernel
theorem dX6_placeOnErrand_102 : decode cX6_placeOnErrand 102 = .ok (.isub, 1) := by decide +kernel
theorem dX6_placeOnErrand_103 : decode cX6_placeOnErrand 103 = .ok (.goto 12, 3) := by decide +kernel
theorem dX6_placeOnErrand_106 : decode cX6_placeOnErrand 106 = .ok (.aload_n 0, 1) := by decide +kernel
theorem dX6_placeOnErrand_107 : decode cX6_placeOnErrand 107 = .ok (.getfield 15, 3) := by decide +kernel
theorem dX6_placeOnErrand_110 : decode cX6_placeOnErrand 110 = .ok (.iload_n 1, 1) := by decide +kernel
theorem dX6_placeOnErrand_111 : decode cX6_placeOnErrand 111 = .ok (.iaload, 1) := by decide +kernel
theorem dX6_placeOnErrand_112 : decode cX6_placeOnErrand 112 = .ok (.iload 6, 2) := by decide +kernel
theorem dX6_placeOnErrand_114 : decode cX6_placeOnErrand 114 = .ok (.iadd, 1) := by decide +kernel
theorem dX6_placeOnErrand_115 : decode cX6_placeOnErrand 115 = .ok (.ireturn, 1) := by decide +kernel
theorem dX6_stepsOf_0 : decode cX6_stepsOf 0 = .ok (.iload_n 0, 1) := by decide +kernel
theorem dX6_stepsOf_1 : decode cX6_stepsOf 1 = .ok (.tableswitch 53 3 5 #[27, 31, 41], 27) := by decide +kernel
theorem dX6_stepsOf_28 : decode cX6_stepsOf 28 = .ok (.iload_n 1, 1) := by decide +kernel
theorem dX6_stepsOf_29 : decode cX6_stepsOf 29 = .ok (.iconst 2, 1) := by decide +kernel
theorem dX6_stepsOf_30 : decode cX6_stepsOf 30 = .ok (.idiv, 1) := by decide +kernel
theorem dX6_stepsOf_31 : decode cX6_stepsOf 31 = .ok (.ireturn, 1) := by decide +kernel
theorem dX6_stepsOf_32 : decode cX6_stepsOf 32 = .ok (.iload_n 2, 1) := by decide +kernel
theorem dX6_stepsOf_33 : decode cX6_stepsOf 33 = .ok (.ifCond .eq 7, 3) := by decide +kernel
theorem dX6_stepsOf_36 : decode cX6_stepsOf 36 = .ok (.iconst 0, 1) := by decide +kernel
theorem dX6_stepsOf_37 : decode cX6_stepsOf 37 = .ok (.goto 4, 3) := by decide +kernel
theorem dX6_stepsOf_40 : decode cX6_stepsOf 40 = .ok (.iload_n 1, 1) := by decide +kernel
theorem dX6_stepsOf_41 : decode cX6_stepsOf 41 = .ok (.ireturn, 1) := by decide +kernel
theorem dX6_stepsOf_42 : decode cX6_stepsOf 42 = .ok (.iload_n 2, 1) := by decide +kernel
theorem dX6_stepsOf_43 : decode cX6_stepsOf 43 = .ok (.ifCond .eq 7, 3) := by decide +kernel
theorem dX6_stepsOf_46 : decode cX6_stepsOf 46 = .ok (.iconst 0, 1) := by decide +kernel
theorem dX6_stepsOf_47 : decode cX6_stepsOf 47 = .ok (.goto 6, 3) := by decide +kernel
theorem dX6_stepsOf_50 : decode cX6_stepsOf 50 = .ok (.iconst 2, 1) := by decide +kernel
theorem dX6_stepsOf_51 : decode cX6_stepsOf 51 = .ok (.iload_n 1, 1) := by decide +kernel
theorem dX6_stepsOf_52 : decode cX6_stepsOf 52 = .ok (.imul, 1) := by decide +kernel
theorem dX6_stepsOf_53 : decode cX6_stepsOf 53 = .ok (.ireturn, 1) := by decide +kernel
theorem dX6_stepsOf_54 : decode cX6_stepsOf 54 = .ok (.iload_n 1, 1) := by decide +kernel
theorem dX6_stepsOf_55 : decode cX6_stepsOf 55 = .ok (.ireturn, 1) := by decide +kernel
theorem dX7_init_0 : decode cX7_init 0 = .ok (.aload_n 0, 1) := by decide +kernel
theorem dX7_init_1 : decode cX7_init 1 = .ok (.invokespecial 1, 3) := by decide +kernel
theorem dX7_init_4 : decode cX7_init 4 = .ok (.aload_n 0, 1) := by decide +kernel
theorem dX7_init_5 : decode cX7_init 5 = .ok (.new 7, 3) := by decide +kernel
theorem dX7_init_8 : decode cX7_init 8 = .ok (.dup, 1) := by decide +kernel
theorem dX7_init_9 : decode cX7_init 9 = .ok (.invokespecial 9, 3) := by decide +kernel
theorem dX7_init_12 : decode cX7_init 12 = .ok (.putfield 10, 3) := by decide +kernel
theorem dX7_init_15 : decode cX7_init 15 = .ok (.aload_n 0, 1) := by decide +kernel
theorem dX7_init_16 : decode cX7_init 16 = .ok (.new 16, 3) := by decide +kernel
theorem dX7_init_19 : decode cX7_init 19 = .ok (.dup, 1) := by decide +kernel
theorem dX7_init_20 : decode cX7_init 20 = .ok (.invokespecial 18, 3) := by decide +kernel
theorem dX7_init_23 : decode cX7_init 23 = .ok (.putfield 19, 3) := by decide +kernel
theorem dX7_init_26 : decode cX7_init 26 = .ok (.aload_n 0, 1) := by decide +kernel
theorem dX7_init_27 : decode cX7_init 27 = .ok (.new 23, 3) := by decide +kernel
theorem dX7_init_30 : decode cX7_init 30 = .ok (.dup, 1) := by decide +kernel
theorem dX7_init_31 : decode cX7_init 31 = .ok (.invokespecial 25, 3) := by decide +kernel
theorem dX7_init_34 : decode cX7_init 34 = .ok (.putfield 26, 3) := by decide +kernel
theorem dX7_init_37 : decode cX7_init 37 = .ok (.aload_n 0, 1) := by decide +kernel
theorem dX7_init_38 : decode cX7_init 38 = .ok (.new 23, 3) := by decide +kernel
theorem dX7_init_41 : decode cX7_init 41 = .ok (.dup, 1) := by decide +kernel
theorem dX7_init_42 : decode cX7_init 42 = .ok (.invokespecial 25, 3) := by decide +kernel
theorem dX7_init_45 : decode cX7_init 45 = .ok (.putfield 30, 3) := by decide +kernel
theorem dX7_init_48 : decode cX7_init 48 = .ok (.aload_n 0, 1) := by decide +kernel
theorem dX7_init_49 : decode cX7_init 49 = .ok (.new 33, 3) := by decide +kernel
theorem dX7_init_52 : decode cX7_init 52 = .ok (.dup, 1) := by decide +kernel
theorem dX7_init_53 : decode cX7_init 53 = .ok (.invokespecial 35, 3) := by decide +kernel
theorem dX7_init_56 : decode cX7_init 56 = .ok (.putfield 36, 3) := by decide +kernel
theorem dX7_init_59 : decode cX7_init 59 = .ok (.aload_n 0, 1) := by decide +kernel
theorem dX7_init_60 : decode cX7_init 60 = .ok (.new 40, 3) := by decide +kernel
theorem dX7_init_63 : decode cX7_init 63 = .ok (.dup, 1) := by decide +kernel
theorem dX7_init_64 : decode cX7_init 64 = .ok (.invokespecial 42, 3) := by decide +kernel
theorem dX7_init_67 : decode cX7_init 67 = .ok (.putfield 43, 3) := by decide +kernel
theorem dX7_init_70 : decode cX7_init 70 = .ok (.aload_n 0, 1) := by decide +kernel
theorem dX7_init_71 : decode cX7_init 71 = .ok (.new 47, 3) := by decide +kernel
theorem dX7_init_74 : decode cX7_init 74 = .ok (.dup, 1) := by decide +kernel
theorem dX7_init_75 : decode cX7_init 75 = .ok (.aload_n 0, 1) := by decide +kernel
theorem dX7_init_76 : decode cX7_init 76 = .ok (.getfield 43, 3) := by decide +kernel
theorem dX7_init_79 : decode cX7_init 79 = .ok (.invokespecial 49, 3) := by decide +kernel
theorem dX7_init_82 : decode cX7_init 82 = .ok (.putfield 52, 3) := by decide +kernel
theorem dX7_init_85 : decode cX7_init 85 = .ok (.aload_n 0, 1) := by decide +kernel
theorem dX7_init_86 : decode cX7_init 86 = .ok (.new 56, 3) := by decide +kernel
theorem dX7_init_89 : decode cX7_init 89 = .ok (.dup, 1) := by decide +kernel
theorem dX7_init_90 : decode cX7_init 90 = .ok (.invokespecial 58, 3) := by decide +kernel
theorem dX7_init_93 : decode cX7_init 93 = .ok (.putfield 59, 3) := by decide +kernel
theorem dX7_init_96 : decode cX7_init 96 = .ok (.aload_n 0, 1) := by decide +kernel
theorem dX7_init_97 : decode cX7_init 97 = .ok (.iconst 2, 1) := by decide +kernel
theorem dX7_init_98 : decode cX7_init 98 = .ok (.anewarray 23, 3) := by decide +kernel
theorem dX7_init_101 : decode cX7_init 101 = .ok (.putfield 63, 3) := by decide +kernel
theorem dX7_init_104 : decode cX7_init 104 = .ok (.iconst 0, 1) := by decide +kernel
theorem dX7_init_105 : decode cX7_init 105 = .ok (.istore_n 1, 1) := by decide +kernel
theorem dX7_init_106 : decode cX7_init 106 = .ok (.iload_n 1, 1) := by decide +kernel
theorem dX7_init_107 : decode cX7_init 107 = .ok (.iconst 2, 1) := by decide +kernel
theorem dX7_init_108 : decode cX7_init 108 = .ok (.if_icmp .ge 22, 3) := by decide +kernel
theorem dX7_init_111 : decode cX7_init 111 = .ok (.aload_n 0, 1) := by decide +kernel
theorem dX7_init_112 : decode cX7_init 112 = .ok (.getfield 63, 3) := by decide +kernel
theorem dX7_init_115 : decode cX7_init 115 = .ok (.iload_n 1, 1) := by decide +kernel
theorem dX7_init_116 : decode cX7_init 116 = .ok (.new 23, 3) := by decide +kernel
theorem dX7_init_119 : decode cX7_init 119 = .ok (.dup, 1) := by decide +kernel
theorem dX7_init_120 : decode cX7_init 120 = .ok (.invokespecial 25, 3) := by decide +kernel
theorem dX7_init_123 : decode cX7_init 123 = .ok (.aastore, 1) := by decide +kernel
theorem dX7_init_124 : decode cX7_init 124 = .ok (.iinc 1 1, 3) := by decide +kernel
theorem dX7_init_127 : decode cX7_init 127 = .ok (.goto (-21), 3) := by decide +kernel
theorem dX7_init_130 : decode cX7_init 130 = .ok (.return_, 1) := by decide +kernel
theorem dX7_row_0 : decode cX7_row 0 = .ok (.iload_n 1, 1) := by decide +kernel
theorem dX7_row_1 : decode cX7_row 1 = .ok (.invokestatic 67, 3) := by decide +kernel
theorem dX7_row_4 : decode cX7_row 4 = .ok (.ifCond .eq 18, 3) := by decide +kernel
theorem dX7_row_7 : decode cX7_row 7 = .ok (.iload_n 2, 1) := by decide +kernel
theorem dX7_row_8 : decode cX7_row 8 = .ok (.iconst 0, 1) := by decide +kernel
theorem dX7_row_9 : decode cX7_row 9 = .ok (.iconst 2, 1) := by decide +kernel
theorem dX7_row_10 : decode cX7_row 10 = .ok (.invokestatic 71, 3) := by decide +kernel
theorem dX7_row_13 : decode cX7_row 13 = .ok (.ifCond .eq 9, 3) := by decide +kernel
theorem dX7_row_16 : decode cX7_row 16 = .ok (.iload_n 3, 1) := by decide +kernel
theorem dX7_row_17 : decode cX7_row 17 = .ok (.bipush 40, 2) := by decide +kernel
theorem dX7_row_19 : decode cX7_row 19 = .ok (.if_icmp .le 6, 3) := by decide +kernel
theorem dX7_row_22 : decode cX7_row 22 = .ok (.ldc 75, 2) := by decide +kernel
theorem dX7_row_24 : decode cX7_row 24 = .ok (.ireturn, 1) := by decide +kernel
theorem dX7_row_25 : decode cX7_row 25 = .ok (.iload_n 3, 1) := by decide +kernel
theorem dX7_row_26 : decode cX7_row 26 = .ok (.ifCond .ge 9, 3) := by decide +kernel
theorem dX7_row_29 : decode cX7_row 29 = .ok (.aload_n 0, 1) := by decide +kernel
theorem dX7_row_30 : decode cX7_row 30 = .ok (.iconst 4, 1) := by decide +kernel
theorem dX7_row_31 : decode cX7_row 31 = .ok (.invokevirtual 76, 3) := by decide +kernel
theorem dX7_row_34 : decode cX7_row 34 = .ok (.ireturn, 1) := by decide +kernel
theorem dX7_row_35 : decode cX7_row 35 = .ok (.aload_n 0, 1) := by decide +kernel
theorem dX7_row_36 : decode cX7_row 36 = .ok (.getfield 10, 3) := by decide +kernel
theorem dX7_row_39 : decode cX7_row 39 = .ok (.iload_n 1, 1) := by decide +kernel
theorem dX7_row_40 : decode cX7_row 40 = .ok (.iload_n 2, 1) := by decide +kernel
theorem dX7_row_41 : decode cX7_row 41 = .ok (.iload_n 3, 1) := by decide +kernel
theorem dX7_row_42 : decode cX7_row 42 = .ok (.invokevirtual 80, 3) := by decide +kernel
theorem dX7_row_45 : decode cX7_row 45 = .ok (.aload_n 0, 1) := by decide +kernel
theorem dX7_row_46 : decode cX7_row 46 = .ok (.iload_n 3, 1) := by decide +kernel
theorem dX7_row_47 : decode cX7_row 47 = .ok (.invokevirtual 84, 3) := by decide +kernel
theorem dX7_row_50 : decode cX7_row 50 = .ok (.ireturn, 1) := by decide +kernel
theorem dX7_set_0 : decode cX7_set 0 = .ok (.iload_n 1, 1) := by decide +kernel
theorem dX7_set_1 : decode cX7_set 1 = .ok (.invokestatic 67, 3) := by decide +kernel
theorem dX7_set_4 : decode cX7_set 4 = .ok (.ifCond .ne 6, 3) := by decide +kernel
theorem dX7_set_7 : decode cX7_set 7 = .ok (.ldc 75, 2) := by decide +kernel
theorem dX7_set_9 : decode cX7_set 9 = .ok (.ireturn, 1) := by decide +kernel
theorem dX7_set_10 : decode cX7_set 10 = .ok (.aload_n 0, 1) := by decide +kernel
theorem dX7_set_11 : decode cX7_set 11 = .ok (.getfield 10, 3) := by decide +kernel
theorem dX7_set_14 : decode cX7_set 14 = .ok (.iload_n 1, 1) := by decide +kernel
theorem dX7_set_15 : decode cX7_set 15 = .ok (.iload_n 2, 1) := by decide +kernel
theorem dX7_set_16 : decode cX7_set 16 = .ok (.iconst 1, 1) := by decide +kernel
theorem dX7_set_17 : decode cX7_set 17 = .ok (.invokevirtual 87, 3) := by decide +kernel
theorem dX7_set_20 : decode cX7_set 20 = .ok (.istore 4, 2) := by decide +kernel
theorem dX7_set_22 : decode cX7_set 22 = .ok (.iload 4, 2) := by decide +kernel
theorem dX7_set_24 : decode cX7_set 24 = .ok (.ifCond .eq 12, 3) := by decide +kernel
theorem dX7_set_27 : decode cX7_set 27 = .ok (.aload_n 0, 1) := by decide +kernel
theorem dX7_set_28 : decode cX7_set 28 = .ok (.iload 4, 2) := by decide +kernel
theorem dX7_set_30 : decode cX7_set 30 = .ok (.invokevirtual 76, 3) := by decide +kernel
theorem dX7_set_33 : decode cX7_set 33 = .ok (.goto 17, 3) := by decide +kernel
theorem dX7_set_36 : decode cX7_set 36 = .ok (.aload_n 0, 1) := by decide +kernel
theorem dX7_set_37 : decode cX7_set 37 = .ok (.aload_n 0, 1) := by decide +kernel
theorem dX7_set_38 : decode cX7_set 38 = .ok (.getfield 10, 3) := by decide +kernel
theorem dX7_set_41 : decode cX7_set 41 = .ok (.iload_n 1, 1) := by decide +kernel
theorem dX7_set_42 : decode cX7_set 42 = .ok (.iload_n 2, 1) := by decide +kernel
theorem dX7_set_43 : decode cX7_set 43 = .ok (.iload_n 3, 1) := by decide +kernel
theorem dX7_set_44 : decode cX7_set 44 = .ok (.invokevirtual 91, 3) := by decide +kernel
theorem dX7_set_47 : decode cX7_set 47 = .ok (.invokevirtual 84, 3) := by decide +kernel
theorem dX7_set_50 : decode cX7_set 50 = .ok (.ireturn, 1) := by decide +kernel
theorem dX7_copy_0 : decode cX7_copy 0 = .ok (.iload_n 1, 1) := by decide +kernel
theorem dX7_copy_1 : decode cX7_copy 1 = .ok (.invokestatic 67, 3) := by decide +kernel
theorem dX7_copy_4 : decode cX7_copy 4 = .ok (.ifCond .eq 10, 3) := by decide +kernel
theorem dX7_copy_7 : decode cX7_copy 7 = .ok (.iload_n 3, 1) := by decide +kernel
theorem dX7_copy_8 : decode cX7_copy 8 = .ok (.invokestatic 67, 3) := by decide +kernel
theorem dX7_copy_11 : decode cX7_copy 11 = .ok (.ifCond .ne 6, 3) := by decide +kernel
theorem dX7_copy_14 : decode cX7_copy 14 = .ok (.ldc 75, 2) := by decide +kernel
theorem dX7_copy_16 : decode cX7_copy 16 = .ok (.ireturn, 1) := by decide +kernel
theorem dX7_copy_17 : decode cX7_copy 17 = .ok (.aload_n 0, 1) := by decide +kernel
theorem dX7_copy_18 : decode cX7_copy 18 = .ok (.getfield 10, 3) := by decide +kernel
theorem dX7_copy_21 : decode cX7_copy 21 = .ok (.iload_n 1, 1) := by decide +kernel
theorem dX7_copy_22 : decode cX7_copy 22 = .ok (.invokevirtual 94, 3) := by decide +kernel
theorem dX7_copy_25 : decode cX7_copy 25 = .ok (.ifCond .eq 14, 3) := by decide +kernel
theorem dX7_copy_28 : decode cX7_copy 28 = .ok (.aload_n 0, 1) := by decide +kernel
theorem dX7_copy_29 : decode cX7_copy 29 = .ok (.getfield 10, 3) := by decide +kernel
theorem dX7_copy_32 : decode cX7_copy 32 = .ok (.iload_n 3, 1) := by decide +kernel
theorem dX7_copy_33 : decode cX7_copy 33 = .ok (.invokevirtual 94, 3) := by decide +kernel
theorem dX7_copy_36 : decode cX7_copy 36 = .ok (.ifCond .ne 9, 3) := by decide +kernel
theorem dX7_copy_39 : decode cX7_copy 39 = .ok (.aload_n 0, 1) := by decide +kernel
theorem dX7_copy_40 : decode cX7_copy 40 = .ok (.iconst 1, 1) := by decide +kernel
theorem dX7_copy_41 : decode cX7_copy 41 = .ok (.invokevirtual 76, 3) := by decide +kernel
theorem dX7_copy_44 : decode cX7_copy 44 = .ok (.ireturn, 1) := by decide +kernel
theorem dX7_copy_45 : decode cX7_copy 45 = .ok (.aload_n 0, 1) := by decide +kernel
theorem dX7_copy_46 : decode cX7_copy 46 = .ok (.getfield 10, 3) := by decide +kernel
theorem dX7_copy_49 : decode cX7_copy 49 = .ok (.iload_n 1, 1) := by decide +kernel
theorem dX7_copy_50 : decode cX7_copy 50 = .ok (.invokevirtual 97, 3) := by decide +kernel
theorem dX7_copy_53 : decode cX7_copy 53 = .ok (.aload_n 0, 1) := by decide +kernel
theorem dX7_copy_54 : decode cX7_copy 54 = .ok (.getfield 10, 3) := by decide +kernel
theorem dX7_copy_57 : decode cX7_copy 57 = .ok (.iload_n 3, 1) := by decide +kernel
theorem dX7_copy_58 : decode cX7_copy 58 = .ok (.invokevirtual 97, 3) := by decide +kernel
theorem dX7_copy_61 : decode cX7_copy 61 = .ok (.if_icmp .eq 9, 3) := by decide +kernel
theorem dX7_copy_64 : decode cX7_copy 64 = .ok (.aload_n 0, 1) := by decide +kernel
theorem dX7_copy_65 : decode cX7_copy 65 = .ok (.iconst 5, 1) := by decide +kernel
theorem dX7_copy_66 : decode cX7_copy 66 = .ok (.invokevirtual 76, 3) := by decide +kernel
theorem dX7_copy_69 : decode cX7_copy 69 = .ok (.ireturn, 1) := by decide +kernel
theorem dX7_copy_70 : decode cX7_copy 70 = .ok (.aload_n 0, 1) := by decide +kernel
theorem dX7_copy_71 : decode cX7_copy 71 = .ok (.getfield 10, 3) := by decide +kernel
theorem dX7_copy_74 : decode cX7_copy 74 = .ok (.iload_n 1, 1) := by decide +kernel
theorem dX7_copy_75 : decode cX7_copy 75 = .ok (.iload_n 2, 1) := by decide +kernel
theorem dX7_copy_76 : decode cX7_copy 76 = .ok (.iload 5, 2) := by decide +kernel
theorem dX7_copy_78 : decode cX7_copy 78 = .ok (.invokevirtual 100, 3) := by decide +kernel
theorem dX7_copy_81 : decode cX7_copy 81 = .ok (.ifCond .eq 18, 3) := by decide +kernel
theorem dX7_copy_84 : decode cX7_copy 84 = .ok (.aload_n 0, 1) := by decide +kernel
theorem dX7_copy_85 : decode cX7_copy 85 = .ok (.getfield 10, 3) := by decide +kernel
theorem dX7_copy_88 : decode cX7_copy 88 = .ok (.iload_n 3, 1) := by decide +kernel
theorem dX7_copy_89 : decode cX7_copy 89 = .ok (.iload 4, 2) := by decide +kernel
theorem dX7_copy_91 : decode cX7_copy 91 = .ok (.iload 5, 2) := by decide +kernel
theorem dX7_copy_93 : decode cX7_copy 93 = .ok (.invokevirtual 100, 3) := by decide +kernel
theorem dX7_copy_96 : decode cX7_copy 96 = .ok (.ifCond .ne 9, 3) := by decide +kernel
theorem dX7_copy_99 : decode cX7_copy 99 = .ok (.aload_n 0, 1) := by decide +kernel
theorem dX7_copy_100 : decode cX7_copy 100 = .ok (.iconst 2, 1) := by decide +kernel
theorem dX7_copy_101 : decode cX7_copy 101 = .ok (.invokevirtual 76, 3) := by decide +kernel
theorem dX7_copy_104 : decode cX7_copy 104 = .ok (.ireturn, 1) := by decide +kernel
theorem dX7_copy_105 : decode cX7_copy 105 = .ok (.aload_n 0, 1) := by decide +kernel
theorem dX7_copy_106 : decode cX7_copy 106 = .ok (.getfield 10, 3) := by decide +kernel
theorem dX7_copy_109 : decode cX7_copy 109 = .ok (.iload_n 1, 1) := by decide +kernel
theorem dX7_copy_110 : decode cX7_copy 110 = .ok (.iload_n 2, 1) := by decide +kernel
theorem dX7_copy_111 : decode cX7_copy 111 = .ok (.iload_n 3, 1) := by decide +kernel
theorem dX7_copy_112 : decode cX7_copy 112 = .ok (.iload 4, 2) := by decide +kernel
theorem dX7_copy_114 : decode cX7_copy 114 = .ok (.iload 5, 2) := by decide +kernel
theorem dX7_copy_116 : decode cX7_copy 116 = .ok (.invokevirtual 103, 3) := by decide +kernel
theorem dX7_copy_119 : decode cX7_copy 119 = .ok (.aload_n 0, 1) := by decide +kernel
theorem dX7_copy_120 : decode cX7_copy 120 = .ok (.iload 5, 2) := by decide +kernel
theorem dX7_copy_122 : decode cX7_copy 122 = .ok (.invokevirtual 84, 3) := by decide +kernel
theorem dX7_copy_125 : decode cX7_copy 125 = .ok (.ireturn, 1) := by decide +kernel
theorem dX7_drop_0 : decode cX7_drop 0 = .ok (.iload_n 1, 1) := by decide +kernel
theorem dX7_drop_1 : decode cX7_drop 1 = .ok (.invokestatic 67, 3) := by decide +kernel
theorem dX7_drop_4 : decode cX7_drop 4 = .ok (.ifCond .ne 6, 3) := by decide +kernel
theorem dX7_drop_7 : decode cX7_drop 7 = .ok (.ldc 75, 2) := by decide +kernel
theorem dX7_drop_9 : decode cX7_drop 9 = .ok (.ireturn, 1) := by decide +kernel
theorem dX7_drop_10 : decode cX7_drop 10 = .ok (.aload_n 0, 1) := by decide +kernel
theorem dX7_drop_11 : decode cX7_drop 11 = .ok (.getfield 10, 3) := by decide +kernel
theorem dX7_drop_14 : decode cX7_drop 14 = .ok (.iload_n 1, 1) := by decide +kernel
theorem dX7_drop_15 : decode cX7_drop 15 = .ok (.invokevirtual 94, 3) := by decide +kernel
theorem dX7_drop_18 : decode cX7_drop 18 = .ok (.ifCond .ne 9, 3) := by decide +kernel
theorem dX7_drop_21 : decode cX7_drop 21 = .ok (.aload_n 0, 1) := by decide +kernel
theorem dX7_drop_22 : decode cX7_drop 22 = .ok (.iconst 1, 1) := by decide +kernel
theorem dX7_drop_23 : decode cX7_drop 23 = .ok (.invokevirtual 76, 3) := by decide +kernel
theorem dX7_drop_26 : decode cX7_drop 26 = .ok (.ireturn, 1) := by decide +kernel
theorem dX7_drop_27 : decode cX7_drop 27 = .ok (.aload_n 0, 1) := by decide +kernel
theorem dX7_drop_28 : decode cX7_drop 28 = .ok (.getfield 10, 3) := by decide +kernel
theorem dX7_drop_31 : decode cX7_drop 31 = .ok (.iload_n 1, 1) := by decide +kernel
theorem dX7_drop_32 : decode cX7_drop 32 = .ok (.invokevirtual 107, 3) := by decide +kernel
theorem dX7_drop_35 : decode cX7_drop 35 = .ok (.istore_n 2, 1) := by decide +kernel
theorem dX7_drop_36 : decode cX7_drop 36 = .ok (.aload_n 0, 1) := by decide +kernel
theorem dX7_drop_37 : decode cX7_drop 37 = .ok (.getfield 10, 3) := by decide +kernel
theorem dX7_drop_40 : decode cX7_drop 40 = .ok (.iload_n 1, 1) := by decide +kernel
theorem dX7_drop_41 : decode cX7_drop 41 = .ok (.invokevirtual 110, 3) := by decide +kernel
theorem dX7_drop_44 : decode cX7_drop 44 = .ok (.aload_n 0, 1) := by decide +kernel
theorem dX7_drop_45 : decode cX7_drop 45 = .ok (.iload_n 2, 1) := by decide +kernel
theorem dX7_drop_46 : decode cX7_drop 46 = .ok (.invokevirtual 84, 3) := by decide +kernel
theorem dX7_drop_49 : decode cX7_drop 49 = .ok (.ireturn, 1) := by decide +kernel
theorem dX7_feed_0 : decode cX7_feed 0 = .ok (.iload_n 1, 1) := by decide +kernel
theorem dX7_feed_1 : decode cX7_feed 1 = .ok (.iconst 0, 1) := by decide +kernel
theorem dX7_feed_2 : decode cX7_feed 2 = .ok (.sipush 255, 3) := by decide +kernel
theorem dX7_feed_5 : decode cX7_feed 5 = .ok (.invokestatic 71, 3) := by decide +kernel
theorem dX7_feed_8 : decode cX7_feed 8 = .ok (.ifCond .ne 6, 3) := by decide +kernel
theorem dX7_feed_11 : decode cX7_feed 11 = .ok (.ldc 75, 2) := by decide +kernel
theorem dX7_feed_13 : decode cX7_feed 13 = .ok (.ireturn, 1) := by decide +kernel
theorem dX7_feed_14 : decode cX7_feed 14 = .ok (.aload_n 0, 1) := by decide +kernel
theorem dX7_feed_15 : decode cX7_feed 15 = .ok (.getfield 19, 3) := by decide +kernel
theorem dX7_feed_18 : decode cX7_feed 18 = .ok (.iload_n 1, 1) := by decide +kernel
theorem dX7_feed_19 : decode cX7_feed 19 = .ok (.invokevirtual 114, 3) := by decide +kernel
theorem dX7_feed_22 : decode cX7_feed 22 = .ok (.ifCond .eq 13, 3) := by decide +kernel
theorem dX7_feed_25 : decode cX7_feed 25 = .ok (.aload_n 0, 1) := by decide +kernel
theorem dX7_feed_26 : decode cX7_feed 26 = .ok (.getfield 19, 3) := by decide +kernel
theorem dX7_feed_29 : decode cX7_feed 29 = .ok (.invokevirtual 117, 3) := by decide +kernel
theorem dX7_feed_32 : decode cX7_feed 32 = .ok (.goto 5, 3) := by decide +kernel
theorem dX7_feed_35 : decode cX7_feed 35 = .ok (.ldc 121, 2) := by decide +kernel
theorem dX7_feed_37 : decode cX7_feed 37 = .ok (.ireturn, 1) := by decide +kernel
theorem dX7_town_0 : decode cX7_town 0 = .ok (.aload_n 0, 1) := by decide +kernel
theorem dX7_town_1 : decode cX7_town 1 = .ok (.getfield 19, 3) := by decide +kernel
theorem dX7_town_4 : decode cX7_town 4 = .ok (.aload_n 0, 1) := by decide +kernel
theorem dX7_town_5 : decode cX7_town 5 = .ok (.getfield 30, 3) := by decide +kernel
theorem dX7_town_8 : decode cX7_town 8 = .ok (.invokevirtual 122, 3) := by decide +kernel
theorem dX7_town_11 : decode cX7_town 11 = .ok (.istore_n 1, 1) := by decide +kernel
theorem dX7_town_12 : decode cX7_town 12 = .ok (.aload_n 0, 1) := by decide +kernel
theorem dX7_town_13 : decode cX7_town 13 = .ok (.getfield 19, 3) := by decide +kernel
theorem dX7_town_16 : decode cX7_town 16 = .ok (.invokevirtual 126, 3) := by decide +kernel
theorem dX7_town_19 : decode cX7_town 19 = .ok (.iload_n 1, 1) := by decide +kernel
theorem dX7_town_20 : decode cX7_town 20 = .ok (.ifCond .eq 19, 3) := by decide +kernel
theorem dX7_town_23 : decode cX7_town 23 = .ok (.aload_n 0, 1) := by decide +kernel
theorem dX7_town_24 : decode cX7_town 24 = .ok (.iload_n 1, 1) := by decide +kernel
theorem dX7_town_25 : decode cX7_town 25 = .ok (.putfield 129, 3) := by decide +kernel
theorem dX7_town_28 : decode cX7_town 28 = .ok (.ldc 133, 2) := by decide +kernel
theorem dX7_town_30 : decode cX7_town 30 = .ok (.aload_n 0, 1) := by decide +kernel
theorem dX7_town_31 : decode cX7_town 31 = .ok (.getfield 19, 3) := by decide +kernel
theorem dX7_town_34 : decode cX7_town 34 = .ok (.invokevirtual 134, 3) := by decide +kernel
theorem dX7_town_37 : decode cX7_town 37 = .ok (.isub, 1) := by decide +kernel
theorem dX7_town_38 : decode cX7_town 38 = .ok (.ireturn, 1) := by decide +kernel
theorem dX7_town_39 : decode cX7_town 39 = .ok (.aload_n 0, 1) := by decide +kernel
theorem dX7_town_40 : decode cX7_town 40 = .ok (.getfield 26, 3) := by decide +kernel
theorem dX7_town_43 : decode cX7_town 43 = .ok (.aload_n 0, 1) := by decide +kernel
theorem dX7_town_44 : decode cX7_town 44 = .ok (.getfield 30, 3) := by decide +kernel
theorem dX7_town_47 : decode cX7_town 47 = .ok (.invokevirtual 137, 3) := by decide +kernel
theorem dX7_town_50 : decode cX7_town 50 = .ok (.aload_n 0, 1) := by decide +kernel
theorem dX7_town_51 : decode cX7_town 51 = .ok (.getfield 36, 3) := by decide +kernel
theorem dX7_town_54 : decode cX7_town 54 = .ok (.invokevirtual 141, 3) := by decide +kernel
theorem dX7_town_57 : decode cX7_town 57 = .ok (.aload_n 0, 1) := by decide +kernel
theorem dX7_town_58 : decode cX7_town 58 = .ok (.getfield 26, 3) := by decide +kernel
theorem dX7_town_61 : decode cX7_town 61 = .ok (.getfield 144, 3) := by decide +kernel
theorem dX7_town_64 : decode cX7_town 64 = .ok (.ireturn, 1) := by decide +kernel
theorem dX7_fault_0 : decode cX7_fault 0 = .ok (.aload_n 0, 1) := by decide +kernel
theorem dX7_fault_1 : decode cX7_fault 1 = .ok (.getfield 129, 3) := by decide +kernel
theorem dX7_fault_4 : decode cX7_fault 4 = .ok (.ireturn, 1) := by decide +kernel
theorem dX7_undo_0 : decode cX7_undo 0 = .ok (.aload_n 0, 1) := by decide +kernel
theorem dX7_undo_1 : decode cX7_undo 1 = .ok (.getfield 36, 3) := by decide +kernel
theorem dX7_undo_4 : decode cX7_undo 4 = .ok (.aload_n 0, 1) := by decide +kernel
theorem dX7_undo_5 : decode cX7_undo 5 = .ok (.getfield 26, 3) := by decide +kernel
theorem dX7_undo_8 : decode cX7_undo 8 = .ok (.invokevirtual 147, 3) := by decide +kernel
theorem dX7_undo_11 : decode cX7_undo 11 = .ok (.ifCond .eq 13, 3) := by decide +kernel
theorem dX7_undo_14 : decode cX7_undo 14 = .ok (.aload_n 0, 1) := by decide +kernel
theorem dX7_undo_15 : decode cX7_undo 15 = .ok (.getfield 36, 3) := by decide +kernel
theorem dX7_undo_18 : decode cX7_undo 18 = .ok (.invokevirtual 151, 3) := by decide +kernel
theorem dX7_undo_21 : decode cX7_undo 21 = .ok (.goto 5, 3) := by decide +kernel
theorem dX7_undo_24 : decode cX7_undo 24 = .ok (.ldc 154, 2) := by decide +kernel
theorem dX7_undo_26 : decode cX7_undo 26 = .ok (.ireturn, 1) := by decide +kernel
theorem dX7_hours_0 : decode cX7_hours 0 = .ok (.aload_n 0, 1) := by decide +kernel
theorem dX7_hours_1 : decode cX7_hours 1 = .ok (.getfield 26, 3) := by decide +kernel
theorem dX7_hours_4 : decode cX7_hours 4 = .ok (.invokevirtual 155, 3) := by decide +kernel
theorem dX7_hours_7 : decode cX7_hours 7 = .ok (.ifCond .ne 6, 3) := by decide +kernel
theorem dX7_hours_10 : decode cX7_hours 10 = .ok (.ldc 154, 2) := by decide +kernel
theorem dX7_hours_12 : decode cX7_hours 12 = .ok (.ireturn, 1) := by decide +kernel
theorem dX7_hours_13 : decode cX7_hours 13 = .ok (.iload_n 1, 1) := by decide +kernel
theorem dX7_hours_14 : decode cX7_hours 14 = .ok (.iconst 1, 1) := by decide +kernel
theorem dX7_hours_15 : decode cX7_hours 15 = .ok (.bipush 24, 2) := by decide +kernel
theorem dX7_hours_17 : decode cX7_hours 17 = .ok (.invokestatic 71, 3) := by decide +kernel
theorem dX7_hours_20 : decode cX7_hours 20 = .ok (.ifCond .ne 6, 3) := by decide +kernel
theorem dX7_hours_23 : decode cX7_hours 23 = .ok (.ldc 75, 2) := by decide +kernel
theorem dX7_hours_25 : decode cX7_hours 25 = .ok (.ireturn, 1) := by decide +kernel
theorem dX7_hours_26 : decode cX7_hours 26 = .ok (.aload_n 0, 1) := by decide +kernel
theorem dX7_hours_27 : decode cX7_hours 27 = .ok (.getfield 26, 3) := by decide +kernel
theorem dX7_hours_30 : decode cX7_hours 30 = .ok (.getfield 159, 3) := by decide +kernel
theorem dX7_hours_33 : decode cX7_hours 33 = .ok (.iload_n 1, 1) := by decide +kernel
theorem dX7_hours_34 : decode cX7_hours 34 = .ok (.iadd, 1) := by decide +kernel
theorem dX7_hours_35 : decode cX7_hours 35 = .ok (.sipush 999, 3) := by decide +kernel
theorem dX7_hours_38 : decode cX7_hours 38 = .ok (.if_icmp .le 6, 3) := by decide +kernel
theorem dX7_hours_41 : decode cX7_hours 41 = .ok (.ldc 121, 2) := by decide +kernel
theorem dX7_hours_43 : decode cX7_hours 43 = .ok (.ireturn, 1) := by decide +kernel
theorem dX7_hours_44 : decode cX7_hours 44 = .ok (.aload_n 0, 1) := by decide +kernel
theorem dX7_hours_45 : decode cX7_hours 45 = .ok (.getfield 43, 3) := by decide +kernel
theorem dX7_hours_48 : decode cX7_hours 48 = .ok (.aload_n 0, 1) := by decide +kernel
theorem dX7_hours_49 : decode cX7_hours 49 = .ok (.getfield 26, 3) := by decide +kernel
theorem dX7_hours_52 : decode cX7_hours 52 = .ok (.iload_n 1, 1) := by decide +kernel
theorem dX7_hours_53 : decode cX7_hours 53 = .ok (.invokevirtual 162, 3) := by decide +kernel
theorem dX7_hours_56 : decode cX7_hours 56 = .ok (.iconst 0, 1) := by decide +kernel
theorem dX7_hours_57 : decode cX7_hours 57 = .ok (.istore_n 2, 1) := by decide +kernel
theorem dX7_hours_58 : decode cX7_hours 58 = .ok (.iload_n 2, 1) := by decide +kernel
theorem dX7_hours_59 : decode cX7_hours 59 = .ok (.iload_n 1, 1) := by decide +kernel
theorem dX7_hours_60 : decode cX7_hours 60 = .ok (.if_icmp .ge 31, 3) := by decide +kernel
theorem dX7_hours_63 : decode cX7_hours 63 = .ok (.aload_n 0, 1) := by decide +kernel
theorem dX7_hours_64 : decode cX7_hours 64 = .ok (.getfield 36, 3) := by decide +kernel
theorem dX7_hours_67 : decode cX7_hours 67 = .ok (.aload_n 0, 1) := by decide +kernel
theorem dX7_hours_68 : decode cX7_hours 68 = .ok (.getfield 26, 3) := by decide +kernel
theorem dX7_hours_71 : decode cX7_hours 71 = .ok (.invokevirtual 166, 3) := by decide +kernel
theorem dX7_hours_74 : decode cX7_hours 74 = .ok (.aload_n 0, 1) := by decide +kernel
theorem dX7_hours_75 : decode cX7_hours 75 = .ok (.getfield 43, 3) := by decide +kernel
theorem dX7_hours_78 : decode cX7_hours 78 = .ok (.aload_n 0, 1) := by decide +kernel
theorem dX7_hours_79 : decode cX7_hours 79 = .ok (.getfield 26, 3) := by decide +kernel
theorem dX7_hours_82 : decode cX7_hours 82 = .ok (.invokevirtual 169, 3) := by decide +kernel
theorem dX7_hours_85 : decode cX7_hours 85 = .ok (.iinc 2 1, 3) := by decide +kernel
theorem dX7_hours_88 : decode cX7_hours 88 = .ok (.goto (-30), 3) := by decide +kernel
theorem dX7_hours_91 : decode cX7_hours 91 = .ok (.aload_n 0, 1) := by decide +kernel
theorem dX7_hours_92 : decode cX7_hours 92 = .ok (.getfield 26, 3) := by decide +kernel
theorem dX7_hours_95 : decode cX7_hours 95 = .ok (.invokevirtual 172, 3) := by decide +kernel
theorem dX7_hours_98 : decode cX7_hours 98 = .ok (.ireturn, 1) := by decide +kernel
theorem dX7_post_0 : decode cX7_post 0 = .ok (.aload_n 0, 1) := by decide +kernel
theorem dX7_post_1 : decode cX7_post 1 = .ok (.iload_n 1, 1) := by decide +kernel
theorem dX7_post_2 : decode cX7_post 2 = .ok (.invokevirtual 175, 3) := by decide +kernel
theorem dX7_post_5 : decode cX7_post 5 = .ok (.ifCond .eq 19, 3) := by decide +kernel
theorem dX7_post_8 : decode cX7_post 8 = .ok (.aload_n 0, 1) := by decide +kernel
theorem dX7_post_9 : decode cX7_post 9 = .ok (.iload_n 2, 1) := by decide +kernel
theorem dX7_post_10 : decode cX7_post 10 = .ok (.invokevirtual 178, 3) := by decide +kernel
theorem dX7_post_13 : decode cX7_post 13 = .ok (.ifCond .eq 11, 3) := by decide +kernel
theorem dX7_post_16 : decode cX7_post 16 = .ok (.aload_n 0, 1) := by decide +kernel
theorem dX7_post_17 : decode cX7_post 17 = .ok (.iload_n 3, 1) := by decide +kernel
theorem dX7_post_18 : decode cX7_post 18 = .ok (.invokevirtual 178, 3) := by decide +kernel
theorem dX7_post_21 : decode cX7_post 21 = .ok (.ifCond .ne 6, 3) := by decide +kernel
theorem dX7_post_24 : decode cX7_post 24 = .ok (.ldc 75, 2) := by decide +kernel
theorem dX7_post_26 : decode cX7_post 26 = .ok (.ireturn, 1) := by decide +kernel
theorem dX7_post_27 : decode cX7_post 27 = .ok (.aload_n 0, 1) := by decide +kernel
theorem dX7_post_28 : decode cX7_post 28 = .ok (.getfield 36, 3) := by decide +kernel
theorem dX7_post_31 : decode cX7_post 31 = .ok (.aload_n 0, 1) := by decide +kernel
theorem dX7_post_32 : decode cX7_post 32 = .ok (.getfield 26, 3) := by decide +kernel
theorem dX7_post_35 : decode cX7_post 35 = .ok (.invokevirtual 166, 3) := by decide +kernel
theorem dX7_post_38 : decode cX7_post 38 = .ok (.aload_n 0, 1) := by decide +kernel
theorem dX7_post_39 : decode cX7_post 39 = .ok (.getfield 26, 3) := by decide +kernel
theorem dX7_post_42 : decode cX7_post 42 = .ok (.iload_n 1, 1) := by decide +kernel
theorem dX7_post_43 : decode cX7_post 43 = .ok (.iload_n 2, 1) := by decide +kernel
theorem dX7_post_44 : decode cX7_post 44 = .ok (.iload_n 3, 1) := by decide +kernel
theorem dX7_post_45 : decode cX7_post 45 = .ok (.invokevirtual 181, 3) := by decide +kernel
theorem dX7_post_48 : decode cX7_post 48 = .ok (.aload_n 0, 1) := by decide +kernel
theorem dX7_post_49 : decode cX7_post 49 = .ok (.getfield 26, 3) := by decide +kernel
theorem dX7_post_52 : decode cX7_post 52 = .ok (.getfield 184, 3) := by decide +kernel
theorem dX7_post_55 : decode cX7_post 55 = .ok (.ireturn, 1) := by decide +kernel
theorem dX7_callBack_0 : decode cX7_callBack 0 = .ok (.aload_n 0, 1) := by decide +kernel
theorem dX7_callBack_1 : decode cX7_callBack 1 = .ok (.iload_n 1, 1) := by decide +kernel
theorem dX7_callBack_2 : decode cX7_callBack 2 = .ok (.iconst 1, 1) := by decide +kernel
theorem dX7_callBack_3 : decode cX7_callBack 3 = .ok (.invokevirtual 187, 3) := by decide +kernel
theorem dX7_callBack_6 : decode cX7_callBack 6 = .ok (.istore_n 2, 1) := by decide +kernel
theorem dX7_callBack_7 : decode cX7_callBack 7 = .ok (.iload_n 2, 1) := by decide +kernel
theorem dX7_callBack_8 : decode cX7_callBack 8 = .ok (.ifCond .eq 5, 3) := by decide +kernel
theorem dX7_callBack_11 : decode cX7_callBack 11 = .ok (.iload_n 2, 1) := by decide +kernel
theorem dX7_callBack_12 : decode cX7_callBack 12 = .ok (.ireturn, 1) := by decide +kernel
theorem dX7_callBack_13 : decode cX7_callBack 13 = .ok (.aload_n 0, 1) := by decide +kernel
theorem dX7_callBack_14 : decode cX7_callBack 14 = .ok (.getfield 36, 3) := by decide +kernel
theorem dX7_callBack_17 : decode cX7_callBack 17 = .ok (.aload_n 0, 1) := by decide +kernel
theorem dX7_callBack_18 : decode cX7_callBack 18 = .ok (.getfield 26, 3) := by decide +kernel
theorem dX7_callBack_21 : decode cX7_callBack 21 = .ok (.invokevirtual 166, 3) := by decide +kernel
theorem dX7_callBack_24 : decode cX7_callBack 24 = .ok (.aload_n 0, 1) := by decide +kernel
theorem dX7_callBack_25 : decode cX7_callBack 25 = .ok (.getfield 26, 3) := by decide +kernel
theorem dX7_callBack_28 : decode cX7_callBack 28 = .ok (.dup, 1) := by decide +kernel
theorem dX7_callBack_29 : decode cX7_callBack 29 = .ok (.getfield 184, 3) := by decide +kernel
theorem dX7_callBack_32 : decode cX7_callBack 32 = .ok (.iconst 1, 1) := by decide +kernel
theorem dX7_callBack_33 : decode cX7_callBack 33 = .ok (.iload_n 1, 1) := by decide +kernel
theorem dX7_callBack_34 : decode cX7_callBack 34 = .ok (.ishl, 1) := by decide +kernel
theorem dX7_callBack_35 : decode cX7_callBack 35 = .ok (.iconst (-1), 1) := by decide +kernel
theorem dX7_callBack_36 : decode cX7_callBack 36 = .ok (.ixor, 1) := by decide +kernel
theorem dX7_callBack_37 : decode cX7_callBack 37 = .ok (.iand, 1) := by decide +kernel
theorem dX7_callBack_38 : decode cX7_callBack 38 = .ok (.putfield 184, 3) := by decide +kernel
theorem dX7_callBack_41 : decode cX7_callBack 41 = .ok (.aload_n 0, 1) := by decide +kernel
theorem dX7_callBack_42 : decode cX7_callBack 42 = .ok (.getfield 26, 3) := by decide +kernel
theorem dX7_callBack_45 : decode cX7_callBack 45 = .ok (.getfield 191, 3) := by decide +kernel
theorem dX7_callBack_48 : decode cX7_callBack 48 = .ok (.iload_n 1, 1) := by decide +kernel
theorem dX7_callBack_49 : decode cX7_callBack 49 = .ok (.iaload, 1) := by decide +kernel
theorem dX7_callBack_50 : decode cX7_callBack 50 = .ok (.ireturn, 1) := by decide +kernel
theorem dX7_begin_0 : decode cX7_begin 0 = .ok (.aload_n 0, 1) := by decide +kernel
theorem dX7_begin_1 : decode cX7_begin 1 = .ok (.iload_n 1, 1) := by decide +kernel
theorem dX7_begin_2 : decode cX7_begin 2 = .ok (.invokevirtual 195, 3) := by decide +kernel
theorem dX7_begin_5 : decode cX7_begin 5 = .ok (.ifCond .eq 13, 3) := by decide +kernel
theorem dX7_begin_8 : decode cX7_begin 8 = .ok (.iload_n 2, 1) := by decide +kernel
theorem dX7_begin_9 : decode cX7_begin 9 = .ok (.iconst 0, 1) := by decide +kernel
theorem dX7_begin_10 : decode cX7_begin 10 = .ok (.bipush 23, 2) := by decide +kernel
theorem dX7_begin_12 : decode cX7_begin 12 = .ok (.invokestatic 71, 3) := by decide +kernel
theorem dX7_begin_15 : decode cX7_begin 15 = .ok (.ifCond .ne 6, 3) := by decide +kernel
theorem dX7_begin_18 : decode cX7_begin 18 = .ok (.ldc 75, 2) := by decide +kernel
theorem dX7_begin_20 : decode cX7_begin 20 = .ok (.ireturn, 1) := by decide +kernel
theorem dX7_begin_21 : decode cX7_begin 21 = .ok (.aload_n 0, 1) := by decide +kernel
theorem dX7_begin_22 : decode cX7_begin 22 = .ok (.getfield 26, 3) := by decide +kernel
theorem dX7_begin_25 : decode cX7_begin 25 = .ok (.getfield 198, 3) := by decide +kernel
theorem dX7_begin_28 : decode cX7_begin 28 = .ok (.iload_n 1, 1) := by decide +kernel
theorem dX7_begin_29 : decode cX7_begin 29 = .ok (.iaload, 1) := by decide +kernel
theorem dX7_begin_30 : decode cX7_begin 30 = .ok (.istore_n 3, 1) := by decide +kernel
theorem dX7_begin_31 : decode cX7_begin 31 = .ok (.aload_n 0, 1) := by decide +kernel
theorem dX7_begin_32 : decode cX7_begin 32 = .ok (.getfield 36, 3) := by decide +kernel
theorem dX7_begin_35 : decode cX7_begin 35 = .ok (.aload_n 0, 1) := by decide +kernel
theorem dX7_begin_36 : decode cX7_begin 36 = .ok (.getfield 26, 3) := by decide +kernel
theorem dX7_begin_39 : decode cX7_begin 39 = .ok (.invokevirtual 166, 3) := by decide +kernel
theorem dX7_begin_42 : decode cX7_begin 42 = .ok (.aload_n 0, 1) := by decide +kernel
theorem dX7_begin_43 : decode cX7_begin 43 = .ok (.getfield 26, 3) := by decide +kernel
theorem dX7_begin_46 : decode cX7_begin 46 = .ok (.getfield 198, 3) := by decide +kernel
theorem dX7_begin_49 : decode cX7_begin 49 = .ok (.iload_n 1, 1) := by decide +kernel
theorem dX7_begin_50 : decode cX7_begin 50 = .ok (.iload_n 2, 1) := by decide +kernel
theorem dX7_begin_51 : decode cX7_begin 51 = .ok (.iastore, 1) := by decide +kernel
theorem dX7_begin_52 : decode cX7_begin 52 = .ok (.iload_n 3, 1) := by decide +kernel
theorem dX7_begin_53 : decode cX7_begin 53 = .ok (.ireturn, 1) := by decide +kernel
theorem dX7_stay_0 : decode cX7_stay 0 = .ok (.aload_n 0, 1) := by decide +kernel
theorem dX7_stay_1 : decode cX7_stay 1 = .ok (.iload_n 1, 1) := by decide +kernel
theorem dX7_stay_2 : decode cX7_stay 2 = .ok (.invokevirtual 195, 3) := by decide +kernel
theorem dX7_stay_5 : decode cX7_stay 5 = .ok (.ifCond .eq 12, 3) := by decide +kernel
theorem dX7_stay_8 : decode cX7_stay 8 = .ok (.iload_n 2, 1) := by decide +kernel
theorem dX7_stay_9 : decode cX7_stay 9 = .ok (.iconst 0, 1) := by decide +kernel
theorem dX7_stay_10 : decode cX7_stay 10 = .ok (.iconst 1, 1) := by decide +kernel
theorem dX7_stay_11 : decode cX7_stay 11 = .ok (.invokestatic 71, 3) := by decide +kernel
theorem dX7_stay_14 : decode cX7_stay 14 = .ok (.ifCond .ne 6, 3) := by decide +kernel
theorem dX7_stay_17 : decode cX7_stay 17 = .ok (.ldc 75, 2) := by decide +kernel
theorem dX7_stay_19 : decode cX7_stay 19 = .ok (.ireturn, 1) := by decide +kernel
theorem dX7_stay_20 : decode cX7_stay 20 = .ok (.aload_n 0, 1) := by decide +kernel
theorem dX7_stay_21 : decode cX7_stay 21 = .ok (.getfield 26, 3) := by decide +kernel
theorem dX7_stay_24 : decode cX7_stay 24 = .ok (.iload_n 1, 1) := by decide +kernel
theorem dX7_stay_25 : decode cX7_stay 25 = .ok (.invokevirtual 201, 3) := by decide +kernel
theorem dX7_stay_28 : decode cX7_stay 28 = .ok (.iload_n 2, 1) := by decide +kernel
theorem dX7_stay_29 : decode cX7_stay 29 = .ok (.iconst 1, 1) := by decide +kernel
theorem dX7_stay_30 : decode cX7_stay 30 = .ok (.if_icmp .ne 7, 3) := by decide +kernel
theorem dX7_stay_33 : decode cX7_stay 33 = .ok (.iconst 1, 1) := by decide +kernel
theorem dX7_stay_34 : decode cX7_stay 34 = .ok (.goto 4, 3) := by decide +kernel
theorem dX7_stay_37 : decode cX7_stay 37 = .ok (.iconst 0, 1) := by decide +kernel
theorem dX7_stay_38 : decode cX7_stay 38 = .ok (.if_icmp .ne 6, 3) := by decide +kernel
theorem dX7_stay_41 : decode cX7_stay 41 = .ok (.ldc 154, 2) := by decide +kernel
theorem dX7_stay_43 : decode cX7_stay 43 = .ok (.ireturn, 1) := by decide +kernel
theorem dX7_stay_44 : decode cX7_stay 44 = .ok (.aload_n 0, 1) := by decide +kernel
theorem dX7_stay_45 : decode cX7_stay 45 = .ok (.getfield 36, 3) := by decide +kernel
theorem dX7_stay_48 : decode cX7_stay 48 = .ok (.aload_n 0, 1) := by decide +kernel
theorem dX7_stay_49 : decode cX7_stay 49 = .ok (.getfield 26, 3) := by decide +kernel
theorem dX7_stay_52 : decode cX7_stay 52 = .ok (.invokevirtual 166, 3) := by decide +kernel
theorem dX7_stay_55 : decode cX7_stay 55 = .ok (.aload_n 0, 1) := by decide +kernel
theorem dX7_stay_56 : decode cX7_stay 56 = .ok (.getfield 26, 3) := by decide +kernel
theorem dX7_stay_59 : decode cX7_stay 59 = .ok (.dup, 1) := by decide +kernel
theorem dX7_stay_60 : decode cX7_stay 60 = .ok (.getfield 204, 3) := by decide +kernel
theorem dX7_stay_63 : decode cX7_stay 63 = .ok (.iconst 1, 1) := by decide +kernel
theorem dX7_stay_64 : decode cX7_stay 64 = .ok (.iload_n 1, 1) := by decide +kernel
theorem dX7_stay_65 : decode cX7_stay 65 = .ok (.ishl, 1) := by decide +kernel
theorem dX7_stay_66 : decode cX7_stay 66 = .ok (.ixor, 1) := by decide +kernel
theorem dX7_stay_67 : decode cX7_stay 67 = .ok (.putfield 204, 3) := by decide +kernel
theorem dX7_stay_70 : decode cX7_stay 70 = .ok (.aload_n 0, 1) := by decide +kernel
theorem dX7_stay_71 : decode cX7_stay 71 = .ok (.getfield 26, 3) := by decide +kernel
theorem dX7_stay_74 : decode cX7_stay 74 = .ok (.getfield 204, 3) := by decide +kernel
theorem dX7_stay_77 : decode cX7_stay 77 = .ok (.ireturn, 1) := by decide +kernel
theorem dX7_person_0 : decode cX7_person 0 = .ok (.aload_n 0, 1) := by decide +kernel
theorem dX7_person_1 : decode cX7_person 1 = .ok (.iload_n 1, 1) := by decide +kernel
theorem dX7_person_2 : decode cX7_person 2 = .ok (.invokevirtual 195, 3) := by decide +kernel
theorem dX7_person_5 : decode cX7_person 5 = .ok (.ifCond .ne 6, 3) := by decide +kernel
theorem dX7_person_8 : decode cX7_person 8 = .ok (.ldc 75, 2) := by decide +kernel
theorem dX7_person_10 : decode cX7_person 10 = .ok (.ireturn, 1) := by decide +kernel
theorem dX7_person_11 : decode cX7_person 11 = .ok (.iload_n 2, 1) := by decide +kernel
theorem dX7_person_12 : decode cX7_person 12 = .ok (.tableswitch 107 0 5 #[40, 50, 60, 70, 80, 90], 40) := by decide +kernel
theorem dX7_person_52 : decode cX7_person 52 = .ok (.aload_n 0, 1) := by decide +kernel
theorem dX7_person_53 : decode cX7_person 53 = .ok (.getfield 26, 3) := by decide +kernel
theorem dX7_person_56 : decode cX7_person 56 = .ok (.getfield 207, 3) := by decide +kernel
theorem dX7_person_59 : decode cX7_person 59 = .ok (.iload_n 1, 1) := by decide +kernel
theorem dX7_person_60 : decode cX7_person 60 = .ok (.iaload, 1) := by decide +kernel
theorem dX7_person_61 : decode cX7_person 61 = .ok (.ireturn, 1) := by decide +kernel
theorem dX7_person_62 : decode cX7_person 62 = .ok (.aload_n 0, 1) := by decide +kernel
theorem dX7_person_63 : decode cX7_person 63 = .ok (.getfield 26, 3) := by decide +kernel
theorem dX7_person_66 : decode cX7_person 66 = .ok (.getfield 210, 3) := by decide +kernel
theorem dX7_person_69 : decode cX7_person 69 = .ok (.iload_n 1, 1) := by decide +kernel
theorem dX7_person_70 : decode cX7_person 70 = .ok (.iaload, 1) := by decide +kernel
theorem dX7_person_71 : decode cX7_person 71 = .ok (.ireturn, 1) := by decide +kernel
theorem dX7_person_72 : decode cX7_person 72 = .ok (.aload_n 0, 1) := by decide +kernel
theorem dX7_person_73 : decode cX7_person 73 = .ok (.getfield 26, 3) := by decide +kernel
theorem dX7_person_76 : decode cX7_person 76 = .ok (.getfield 198, 3) := by decide +kernel
theorem dX7_person_79 : decode cX7_person 79 = .ok (.iload_n 1, 1) := by decide +kernel
theorem dX7_person_80 : decode cX7_person 80 = .ok (.iaload, 1) := by decide +kernel
theorem dX7_person_81 : decode cX7_person 81 = .ok (.ireturn, 1) := by decide +kernel
theorem dX7_person_82 : decode cX7_person 82 = .ok (.aload_n 0, 1) := by decide +kernel
theorem dX7_person_83 : decode cX7_person 83 = .ok (.getfield 26, 3) := by decide +kernel
theorem dX7_person_86 : decode cX7_person 86 = .ok (.iload_n 1, 1) := by decide +kernel
theorem dX7_person_87 : decode cX7_person 87 = .ok (.iconst 0, 1) := by decide +kernel
theorem dX7_person_88 : decode cX7_person 88 = .ok (.invokevirtual 213, 3) := by decide +kernel
theorem dX7_person_91 : decode cX7_person 91 = .ok (.ireturn, 1) := by decide +kernel
theorem dX7_person_92 : decode cX7_person 92 = .ok (.aload_n 0, 1) := by decide +kernel
theorem dX7_person_93 : decode cX7_person 93 = .ok (.getfield 26, 3) := by decide +kernel
theorem dX7_person_96 : decode cX7_person 96 = .ok (.iload_n 1, 1) := by decide +kernel
theorem dX7_person_97 : decode cX7_person 97 = .ok (.iconst 1, 1) := by decide +kernel
theorem dX7_person_98 : decode cX7_person 98 = .ok (.invokevirtual 213, 3) := by decide +kernel
theorem dX7_person_101 : decode cX7_person 101 = .ok (.ireturn, 1) := by decide +kernel
theorem dX7_person_102 : decode cX7_person 102 = .ok (.aload_n 0, 1) := by decide +kernel
theorem dX7_person_103 : decode cX7_person 103 = .ok (.getfield 26, 3) := by decide +kernel
theorem dX7_person_106 : decode cX7_person 106 = .ok (.iload_n 1, 1) := by decide +kernel
theorem dX7_person_107 : decode cX7_person 107 = .ok (.invokevirtual 201, 3) := by decide +kernel
theorem dX7_person_110 : decode cX7_person 110 = .ok (.ifCond .eq 7, 3) := by decide +kernel
theorem dX7_person_113 : decode cX7_person 113 = .ok (.iconst 1, 1) := by decide +kernel
theorem dX7_person_114 : decode cX7_person 114 = .ok (.goto 4, 3) := by decide +kernel
theorem dX7_person_117 : decode cX7_person 117 = .ok (.iconst 0, 1) := by decide +kernel
theorem dX7_person_118 : decode cX7_person 118 = .ok (.ireturn, 1) := by decide +kernel
theorem dX7_person_119 : decode cX7_person 119 = .ok (.ldc 75, 2) := by decide +kernel
theorem dX7_person_121 : decode cX7_person 121 = .ok (.ireturn, 1) := by decide +kernel
theorem dX7_letter_0 : decode cX7_letter 0 = .ok (.aload_n 0, 1) := by decide +kernel
theorem dX7_letter_1 : decode cX7_letter 1 = .ok (.iload_n 1, 1) := by decide +kernel
theorem dX7_letter_2 : decode cX7_letter 2 = .ok (.invokevirtual 175, 3) := by decide +kernel
theorem dX7_letter_5 : decode cX7_letter 5 = .ok (.ifCond .ne 6, 3) := by decide +kernel
theorem dX7_letter_8 : decode cX7_letter 8 = .ok (.ldc 75, 2) := by decide +kernel
theorem dX7_letter_10 : decode cX7_letter 10 = .ok (.ireturn, 1) := by decide +kernel
theorem dX7_letter_11 : decode cX7_letter 11 = .ok (.iload_n 2, 1) := by decide +kernel
theorem dX7_letter_12 : decode cX7_letter 12 = .ok (.ifCond .ne 20, 3) := by decide +kernel
theorem dX7_letter_15 : decode cX7_letter 15 = .ok (.aload_n 0, 1) := by decide +kernel
theorem dX7_letter_16 : decode cX7_letter 16 = .ok (.getfield 26, 3) := by decide +kernel
theorem dX7_letter_19 : decode cX7_letter 19 = .ok (.iload_n 1, 1) := by decide +kernel
theorem dX7_letter_20 : decode cX7_letter 20 = .ok (.invokevirtual 217, 3) := by decide +kernel
theorem dX7_letter_23 : decode cX7_letter 23 = .ok (.ifCond .eq 7, 3) := by decide +kernel
theorem dX7_letter_26 : decode cX7_letter 26 = .ok (.iconst 1, 1) := by decide +kernel
theorem dX7_letter_27 : decode cX7_letter 27 = .ok (.goto 4, 3) := by decide +kernel
theorem dX7_letter_30 : decode cX7_letter 30 = .ok (.iconst 0, 1) := by decide +kernel
theorem dX7_letter_31 : decode cX7_letter 31 = .ok (.ireturn, 1) := by decide +kernel
theorem dX7_letter_32 : decode cX7_letter 32 = .ok (.aload_n 0, 1) := by decide +kernel
theorem dX7_letter_33 : decode cX7_letter 33 = .ok (.getfield 26, 3) := by decide +kernel
theorem dX7_letter_36 : decode cX7_letter 36 = .ok (.iload_n 1, 1) := by decide +kernel
theorem dX7_letter_37 : decode cX7_letter 37 = .ok (.invokevirtual 217, 3) := by decide +kernel
theorem dX7_letter_40 : decode cX7_letter 40 = .ok (.ifCond .ne 6, 3) := by decide +kernel
theorem dX7_letter_43 : decode cX7_letter 43 = .ok (.ldc 75, 2) := by decide +kernel
theorem dX7_letter_45 : decode cX7_letter 45 = .ok (.ireturn, 1) := by decide +kernel
theorem dX7_letter_46 : decode cX7_letter 46 = .ok (.iload_n 2, 1) := by decide +kernel
theorem dX7_letter_47 : decode cX7_letter 47 = .ok (.tableswitch 58 1 3 #[25, 35, 45], 25) := by decide +kernel
theorem dX7_letter_72 : decode cX7_letter 72 = .ok (.aload_n 0, 1) := by decide +kernel
theorem dX7_letter_73 : decode cX7_letter 73 = .ok (.getfield 26, 3) := by decide +kernel
theorem dX7_letter_76 : decode cX7_letter 76 = .ok (.getfield 191, 3) := by decide +kernel
theorem dX7_letter_79 : decode cX7_letter 79 = .ok (.iload_n 1, 1) := by decide +kernel
theorem dX7_letter_80 : decode cX7_letter 80 = .ok (.iaload, 1) := by decide +kernel
theorem dX7_letter_81 : decode cX7_letter 81 = .ok (.ireturn, 1) := by decide +kernel
theorem dX7_letter_82 : decode cX7_letter 82 = .ok (.aload_n 0, 1) := by decide +kernel
theorem dX7_letter_83 : decode cX7_letter 83 = .ok (.getfield 26, 3) := by decide +kernel
theorem dX7_letter_86 : decode cX7_letter 86 = .ok (.getfield 220, 3) := by decide +kernel
theorem dX7_letter_89 : decode cX7_letter 89 = .ok (.iload_n 1, 1) := by decide +kernel
theorem dX7_letter_90 : decode cX7_letter 90 = .ok (.iaload, 1) := by decide +kernel
theorem dX7_letter_91 : decode cX7_letter 91 = .ok (.ireturn, 1) := by decide +kernel
theorem dX7_letter_92 : decode cX7_letter 92 = .ok (.aload_n 0, 1) := by decide +kernel
theorem dX7_letter_93 : decode cX7_letter 93 = .ok (.getfield 52, 3) := by decide +kernel
theorem dX7_letter_96 : decode cX7_letter 96 = .ok (.aload_n 0, 1) := by decide +kernel
theorem dX7_letter_97 : decode cX7_letter 97 = .ok (.getfield 26, 3) := by decide +kernel
theorem dX7_letter_100 : decode cX7_letter 100 = .ok (.iload_n 1, 1) := by decide +kernel
theorem dX7_letter_101 : decode cX7_letter 101 = .ok (.invokevirtual 223, 3) := by decide +kernel
theorem dX7_letter_104 : decode cX7_letter 104 = .ok (.ireturn, 1) := by decide +kernel
theorem dX7_letter_105 : decode cX7_letter 105 = .ok (.ldc 75, 2) := by decide +kernel
theorem dX7_letter_107 : decode cX7_letter 107 = .ok (.ireturn, 1) := by decide +kernel
theorem dX7_lane_0 : decode cX7_lane 0 = .ok (.aload_n 0, 1) := by decide +kernel
theorem dX7_lane_1 : decode cX7_lane 1 = .ok (.iload_n 1, 1) := by decide +kernel
theorem dX7_lane_2 : decode cX7_lane 2 = .ok (.invokevirtual 178, 3) := by decide +kernel
theorem dX7_lane_5 : decode cX7_lane 5 = .ok (.ifCond .eq 14, 3) := by decide +kernel
theorem dX7_lane_8 : decode cX7_lane 8 = .ok (.aload_n 0, 1) := by decide +kernel
theorem dX7_lane_9 : decode cX7_lane 9 = .ok (.getfield 26, 3) := by decide +kernel
theorem dX7_lane_12 : decode cX7_lane 12 = .ok (.iload_n 1, 1) := by decide +kernel
theorem dX7_lane_13 : decode cX7_lane 13 = .ok (.invokevirtual 227, 3) := by decide +kernel
theorem dX7_lane_16 : decode cX7_lane 16 = .ok (.goto 5, 3) := by decide +kernel
theorem dX7_lane_19 : decode cX7_lane 19 = .ok (.ldc 75, 2) := by decide +kernel
theorem dX7_lane_21 : decode cX7_lane 21 = .ok (.ireturn, 1) := by decide +kernel
theorem dX7_ahead_0 : decode cX7_ahead 0 = .ok (.aload_n 0, 1) := by decide +kernel
theorem dX7_ahead_1 : decode cX7_ahead 1 = .ok (.iload_n 1, 1) := by decide +kernel
theorem dX7_ahead_2 : decode cX7_ahead 2 = .ok (.invokevirtual 195, 3) := by decide +kernel
theorem dX7_ahead_5 : decode cX7_ahead 5 = .ok (.ifCond .eq 13, 3) := by decide +kernel
theorem dX7_ahead_8 : decode cX7_ahead 8 = .ok (.iload_n 2, 1) := by decide +kernel
theorem dX7_ahead_9 : decode cX7_ahead 9 = .ok (.iconst 0, 1) := by decide +kernel
theorem dX7_ahead_10 : decode cX7_ahead 10 = .ok (.bipush 99, 2) := by decide +kernel
theorem dX7_ahead_12 : decode cX7_ahead 12 = .ok (.invokestatic 71, 3) := by decide +kernel
theorem dX7_ahead_15 : decode cX7_ahead 15 = .ok (.ifCond .ne 6, 3) := by decide +kernel
theorem dX7_ahead_18 : decode cX7_ahead 18 = .ok (.ldc 75, 2) := by decide +kernel
theorem dX7_ahead_20 : decode cX7_ahead 20 = .ok (.ireturn, 1) := by decide +kernel
theorem dX7_ahead_21 : decode cX7_ahead 21 = .ok (.aload_n 0, 1) := by decide +kernel
theorem dX7_ahead_22 : decode cX7_ahead 22 = .ok (.getfield 26, 3) := by decide +kernel
theorem dX7_ahead_25 : decode cX7_ahead 25 = .ok (.iload_n 1, 1) := by decide +kernel
theorem dX7_ahead_26 : decode cX7_ahead 26 = .ok (.iload_n 2, 1) := by decide +kernel
theorem dX7_ahead_27 : decode cX7_ahead 27 = .ok (.invokevirtual 213, 3) := by decide +kernel
theorem dX7_ahead_30 : decode cX7_ahead 30 = .ok (.ireturn, 1) := by decide +kernel
theorem dX7_letterAhead_0 : decode cX7_letterAhead 0 = .ok (.aload_n 0, 1) := by decide +kernel
theorem dX7_letterAhead_1 : decode cX7_letterAhead 1 = .ok (.iload_n 1, 1) := by decide +kernel
theorem dX7_letterAhead_2 : decode cX7_letterAhead 2 = .ok (.iload_n 2, 1) := by decide +kernel
theorem dX7_letterAhead_3 : decode cX7_letterAhead 3 = .ok (.iconst 0, 1) := by decide +kernel
theorem dX7_letterAhead_4 : decode cX7_letterAhead 4 = .ok (.bipush 99, 2) := by decide +kernel
theorem dX7_letterAhead_6 : decode cX7_letterAhead 6 = .ok (.invokestatic 71, 3) := by decide +kernel
theorem dX7_letterAhead_9 : decode cX7_letterAhead 9 = .ok (.invokevirtual 187, 3) := by decide +kernel
theorem dX7_letterAhead_12 : decode cX7_letterAhead 12 = .ok (.istore_n 3, 1) := by decide +kernel
theorem dX7_letterAhead_13 : decode cX7_letterAhead 13 = .ok (.iload_n 3, 1) := by decide +kernel
theorem dX7_letterAhead_14 : decode cX7_letterAhead 14 = .ok (.ifCond .eq 7, 3) := by decide +kernel
theorem dX7_letterAhead_17 : decode cX7_letterAhead 17 = .ok (.iload_n 3, 1) := by decide +kernel
theorem dX7_letterAhead_18 : decode cX7_letterAhead 18 = .ok (.goto 16, 3) := by decide +kernel
theorem dX7_letterAhead_21 : decode cX7_letterAhead 21 = .ok (.aload_n 0, 1) := by decide +kernel
theorem dX7_letterAhead_22 : decode cX7_letterAhead 22 = .ok (.getfield 52, 3) := by decide +kernel
theorem dX7_letterAhead_25 : decode cX7_letterAhead 25 = .ok (.aload_n 0, 1) := by decide +kernel
theorem dX7_letterAhead_26 : decode cX7_letterAhead 26 = .ok (.getfield 26, 3) := by decide +kernel
theorem dX7_letterAhead_29 : decode cX7_letterAhead 29 = .ok (.iload_n 1, 1) := by decide +kernel
theorem dX7_letterAhead_30 : decode cX7_letterAhead 30 = .ok (.iload_n 2, 1) := by decide +kernel
theorem dX7_letterAhead_31 : decode cX7_letterAhead 31 = .ok (.invokevirtual 230, 3) := by decide +kernel
theorem dX7_letterAhead_34 : decode cX7_letterAhead 34 = .ok (.ireturn, 1) := by decide +kernel
theorem dX7_arrives_0 : decode cX7_arrives 0 = .ok (.aload_n 0, 1) := by decide +kernel
theorem dX7_arrives_1 : decode cX7_arrives 1 = .ok (.iload_n 1, 1) := by decide +kernel
theorem dX7_arrives_2 : decode cX7_arrives 2 = .ok (.iconst 1, 1) := by decide +kernel
theorem dX7_arrives_3 : decode cX7_arrives 3 = .ok (.invokevirtual 187, 3) := by decide +kernel
theorem dX7_arrives_6 : decode cX7_arrives 6 = .ok (.istore_n 2, 1) := by decide +kernel
theorem dX7_arrives_7 : decode cX7_arrives 7 = .ok (.iload_n 2, 1) := by decide +kernel
theorem dX7_arrives_8 : decode cX7_arrives 8 = .ok (.ifCond .eq 7, 3) := by decide +kernel
theorem dX7_arrives_11 : decode cX7_arrives 11 = .ok (.iload_n 2, 1) := by decide +kernel
theorem dX7_arrives_12 : decode cX7_arrives 12 = .ok (.goto 15, 3) := by decide +kernel
theorem dX7_arrives_15 : decode cX7_arrives 15 = .ok (.aload_n 0, 1) := by decide +kernel
theorem dX7_arrives_16 : decode cX7_arrives 16 = .ok (.getfield 52, 3) := by decide +kernel
theorem dX7_arrives_19 : decode cX7_arrives 19 = .ok (.aload_n 0, 1) := by decide +kernel
theorem dX7_arrives_20 : decode cX7_arrives 20 = .ok (.getfield 26, 3) := by decide +kernel
theorem dX7_arrives_23 : decode cX7_arrives 23 = .ok (.iload_n 1, 1) := by decide +kernel
theorem dX7_arrives_24 : decode cX7_arrives 24 = .ok (.invokevirtual 234, 3) := by decide +kernel
theorem dX7_arrives_27 : decode cX7_arrives 27 = .ok (.ireturn, 1) := by decide +kernel
theorem dX7_carriers_0 : decode cX7_carriers 0 = .ok (.aload_n 0, 1) := by decide +kernel
theorem dX7_carriers_1 : decode cX7_carriers 1 = .ok (.iload_n 1, 1) := by decide +kernel
theorem dX7_carriers_2 : decode cX7_carriers 2 = .ok (.iload_n 2, 1) := by decide +kernel
theorem dX7_carriers_3 : decode cX7_carriers 3 = .ok (.invokestatic 237, 3) := by decide +kernel
theorem dX7_carriers_6 : decode cX7_carriers 6 = .ok (.invokevirtual 187, 3) := by decide +kernel
theorem dX7_carriers_9 : decode cX7_carriers 9 = .ok (.istore_n 3, 1) := by decide +kernel
theorem dX7_carriers_10 : decode cX7_carriers 10 = .ok (.iload_n 3, 1) := by decide +kernel
theorem dX7_carriers_11 : decode cX7_carriers 11 = .ok (.ifCond .eq 7, 3) := by decide +kernel
theorem dX7_carriers_14 : decode cX7_carriers 14 = .ok (.iload_n 3, 1) := by decide +kernel
theorem dX7_carriers_15 : decode cX7_carriers 15 = .ok (.goto 16, 3) := by decide +kernel
theorem dX7_carriers_18 : decode cX7_carriers 18 = .ok (.aload_n 0, 1) := by decide +kernel
theorem dX7_carriers_19 : decode cX7_carriers 19 = .ok (.getfield 52, 3) := by decide +kernel
theorem dX7_carriers_22 : decode cX7_carriers 22 = .ok (.aload_n 0, 1) := by decide +kernel
theorem dX7_carriers_23 : decode cX7_carriers 23 = .ok (.getfield 26, 3) := by decide +kernel
theorem dX7_carriers_26 : decode cX7_carriers 26 = .ok (.iload_n 1, 1) := by decide +kernel
theorem dX7_carriers_27 : decode cX7_carriers 27 = .ok (.iload_n 2, 1) := by decide +kernel
theorem dX7_carriers_28 : decode cX7_carriers 28 = .ok (.invokevirtual 240, 3) := by decide +kernel
theorem dX7_carriers_31 : decode cX7_carriers 31 = .ok (.ireturn, 1) := by decide +kernel
theorem dX7_bestHour_0 : decode cX7_bestHour 0 = .ok (.aload_n 0, 1) := by decide +kernel
theorem dX7_bestHour_1 : decode cX7_bestHour 1 = .ok (.iload_n 1, 1) := by decide +kernel
theorem dX7_bestHour_2 : decode cX7_bestHour 2 = .ok (.invokevirtual 178, 3) := by decide +kernel
theorem dX7_bestHour_5 : decode cX7_bestHour 5 = .ok (.ifCond .eq 25, 3) := by decide +kernel
theorem dX7_bestHour_8 : decode cX7_bestHour 8 = .ok (.aload_n 0, 1) := by decide +kernel
theorem dX7_bestHour_9 : decode cX7_bestHour 9 = .ok (.iload_n 2, 1) := by decide +kernel
theorem dX7_bestHour_10 : decode cX7_bestHour 10 = .ok (.invokevirtual 178, 3) := by decide +kernel
theorem dX7_bestHour_13 : decode cX7_bestHour 13 = .ok (.ifCond .eq 17, 3) := by decide +kernel
theorem dX7_bestHour_16 : decode cX7_bestHour 16 = .ok (.iload_n 1, 1) := by decide +kernel
theorem dX7_bestHour_17 : decode cX7_bestHour 17 = .ok (.iload_n 2, 1) := by decide +kernel
theorem dX7_bestHour_18 : decode cX7_bestHour 18 = .ok (.if_icmp .eq 12, 3) := by decide +kernel
theorem dX7_bestHour_21 : decode cX7_bestHour 21 = .ok (.iload_n 3, 1) := by decide +kernel
theorem dX7_bestHour_22 : decode cX7_bestHour 22 = .ok (.iconst 0, 1) := by decide +kernel
theorem dX7_bestHour_23 : decode cX7_bestHour 23 = .ok (.iconst 1, 1) := by decide +kernel
theorem dX7_bestHour_24 : decode cX7_bestHour 24 = .ok (.invokestatic 71, 3) := by decide +kernel
theorem dX7_bestHour_27 : decode cX7_bestHour 27 = .ok (.ifCond .ne 6, 3) := by decide +kernel
theorem dX7_bestHour_30 : decode cX7_bestHour 30 = .ok (.ldc 75, 2) := by decide +kernel
theorem dX7_bestHour_32 : decode cX7_bestHour 32 = .ok (.ireturn, 1) := by decide +kernel
theorem dX7_bestHour_33 : decode cX7_bestHour 33 = .ok (.aload_n 0, 1) := by decide +kernel
theorem dX7_bestHour_34 : decode cX7_bestHour 34 = .ok (.getfield 52, 3) := by decide +kernel
theorem dX7_bestHour_37 : decode cX7_bestHour 37 = .ok (.aload_n 0, 1) := by decide +kernel
theorem dX7_bestHour_38 : decode cX7_bestHour 38 = .ok (.getfield 26, 3) := by decide +kernel
theorem dX7_bestHour_41 : decode cX7_bestHour 41 = .ok (.iload_n 1, 1) := by decide +kernel
theorem dX7_bestHour_42 : decode cX7_bestHour 42 = .ok (.iload_n 2, 1) := by decide +kernel
theorem dX7_bestHour_43 : decode cX7_bestHour 43 = .ok (.iload_n 3, 1) := by decide +kernel
theorem dX7_bestHour_44 : decode cX7_bestHour 44 = .ok (.invokevirtual 243, 3) := by decide +kernel
theorem dX7_bestHour_47 : decode cX7_bestHour 47 = .ok (.ireturn, 1) := by decide +kernel
theorem dX7_spots_0 : decode cX7_spots 0 = .ok (.aload_n 0, 1) := by decide +kernel
theorem dX7_spots_1 : decode cX7_spots 1 = .ok (.iload_n 1, 1) := by decide +kernel
theorem dX7_spots_2 : decode cX7_spots 2 = .ok (.invokevirtual 178, 3) := by decide +kernel
theorem dX7_spots_5 : decode cX7_spots 5 = .ok (.ifCond .eq 10, 3) := by decide +kernel
theorem dX7_spots_8 : decode cX7_spots 8 = .ok (.iload_n 2, 1) := by decide +kernel
theorem dX7_spots_9 : decode cX7_spots 9 = .ok (.invokestatic 237, 3) := by decide +kernel
theorem dX7_spots_12 : decode cX7_spots 12 = .ok (.ifCond .ne 6, 3) := by decide +kernel
theorem dX7_spots_15 : decode cX7_spots 15 = .ok (.ldc 75, 2) := by decide +kernel
theorem dX7_spots_17 : decode cX7_spots 17 = .ok (.ireturn, 1) := by decide +kernel
theorem dX7_spots_18 : decode cX7_spots 18 = .ok (.aload_n 0, 1) := by decide +kernel
theorem dX7_spots_19 : decode cX7_spots 19 = .ok (.getfield 52, 3) := by decide +kernel
theorem dX7_spots_22 : decode cX7_spots 22 = .ok (.aload_n 0, 1) := by decide +kernel
theorem dX7_spots_23 : decode cX7_spots 23 = .ok (.getfield 26, 3) := by decide +kernel
theorem dX7_spots_26 : decode cX7_spots 26 = .ok (.iload_n 1, 1) := by decide +kernel
theorem dX7_spots_27 : decode cX7_spots 27 = .ok (.iload_n 2, 1) := by decide +kernel
theorem dX7_spots_28 : decode cX7_spots 28 = .ok (.invokevirtual 247, 3) := by decide +kernel
theorem dX7_spots_31 : decode cX7_spots 31 = .ok (.ireturn, 1) := by decide +kernel
theorem dX7_cutOff_0 : decode cX7_cutOff 0 = .ok (.aload_n 0, 1) := by decide +kernel
theorem dX7_cutOff_1 : decode cX7_cutOff 1 = .ok (.getfield 26, 3) := by decide +kernel
theorem dX7_cutOff_4 : decode cX7_cutOff 4 = .ok (.invokevirtual 155, 3) := by decide +kernel
theorem dX7_cutOff_7 : decode cX7_cutOff 7 = .ok (.ifCond .eq 17, 3) := by decide +kernel
theorem dX7_cutOff_10 : decode cX7_cutOff 10 = .ok (.aload_n 0, 1) := by decide +kernel
theorem dX7_cutOff_11 : decode cX7_cutOff 11 = .ok (.getfield 52, 3) := by decide +kernel
theorem dX7_cutOff_14 : decode cX7_cutOff 14 = .ok (.aload_n 0, 1) := by decide +kernel
theorem dX7_cutOff_15 : decode cX7_cutOff 15 = .ok (.getfield 26, 3) := by decide +kernel
theorem dX7_cutOff_18 : decode cX7_cutOff 18 = .ok (.invokevirtual 250, 3) := by decide +kernel
theorem dX7_cutOff_21 : decode cX7_cutOff 21 = .ok (.goto 5, 3) := by decide +kernel
theorem dX7_cutOff_24 : decode cX7_cutOff 24 = .ok (.ldc 154, 2) := by decide +kernel
theorem dX7_cutOff_26 : decode cX7_cutOff 26 = .ok (.ireturn, 1) := by decide +kernel
theorem dX7_crew_0 : decode cX7_crew 0 = .ok (.aload_n 0, 1) := by decide +kernel
theorem dX7_crew_1 : decode cX7_crew 1 = .ok (.iload_n 1, 1) := by decide +kernel
theorem dX7_crew_2 : decode cX7_crew 2 = .ok (.iload_n 2, 1) := by decide +kernel
theorem dX7_crew_3 : decode cX7_crew 3 = .ok (.invokestatic 237, 3) := by decide +kernel
theorem dX7_crew_6 : decode cX7_crew 6 = .ok (.ifCond .eq 16, 3) := by decide +kernel
theorem dX7_crew_9 : decode cX7_crew 9 = .ok (.iload_n 3, 1) := by decide +kernel
theorem dX7_crew_10 : decode cX7_crew 10 = .ok (.iconst 0, 1) := by decide +kernel
theorem dX7_crew_11 : decode cX7_crew 11 = .ok (.iconst 1, 1) := by decide +kernel
theorem dX7_crew_12 : decode cX7_crew 12 = .ok (.invokestatic 71, 3) := by decide +kernel
theorem dX7_crew_15 : decode cX7_crew 15 = .ok (.ifCond .eq 7, 3) := by decide +kernel
theorem dX7_crew_18 : decode cX7_crew 18 = .ok (.iconst 1, 1) := by decide +kernel
theorem dX7_crew_19 : decode cX7_crew 19 = .ok (.goto 4, 3) := by decide +kernel
theorem dX7_crew_22 : decode cX7_crew 22 = .ok (.iconst 0, 1) := by decide +kernel
theorem dX7_crew_23 : decode cX7_crew 23 = .ok (.invokevirtual 187, 3) := by decide +kernel
theorem dX7_crew_26 : decode cX7_crew 26 = .ok (.istore 4, 2) := by decide +kernel
theorem dX7_crew_28 : decode cX7_crew 28 = .ok (.iload 4, 2) := by decide +kernel
theorem dX7_crew_30 : decode cX7_crew 30 = .ok (.ifCond .eq 8, 3) := by decide +kernel
theorem dX7_crew_33 : decode cX7_crew 33 = .ok (.iload 4, 2) := by decide +kernel
theorem dX7_crew_35 : decode cX7_crew 35 = .ok (.goto 17, 3) := by decide +kernel
theorem dX7_crew_38 : decode cX7_crew 38 = .ok (.aload_n 0, 1) := by decide +kernel
theorem dX7_crew_39 : decode cX7_crew 39 = .ok (.getfield 52, 3) := by decide +kernel
theorem dX7_crew_42 : decode cX7_crew 42 = .ok (.aload_n 0, 1) := by decide +kernel
theorem dX7_crew_43 : decode cX7_crew 43 = .ok (.getfield 26, 3) := by decide +kernel
theorem dX7_crew_46 : decode cX7_crew 46 = .ok (.iload_n 1, 1) := by decide +kernel
theorem dX7_crew_47 : decode cX7_crew 47 = .ok (.iload_n 2, 1) := by decide +kernel
theorem dX7_crew_48 : decode cX7_crew 48 = .ok (.iload_n 3, 1) := by decide +kernel
theorem dX7_crew_49 : decode cX7_crew 49 = .ok (.invokevirtual 253, 3) := by decide +kernel
theorem dX7_crew_52 : decode cX7_crew 52 = .ok (.ireturn, 1) := by decide +kernel
theorem dX7_needed_0 : decode cX7_needed 0 = .ok (.aload_n 0, 1) := by decide +kernel
theorem dX7_needed_1 : decode cX7_needed 1 = .ok (.iload_n 1, 1) := by decide +kernel
theorem dX7_needed_2 : decode cX7_needed 2 = .ok (.iload_n 2, 1) := by decide +kernel
theorem dX7_needed_3 : decode cX7_needed 3 = .ok (.invokestatic 237, 3) := by decide +kernel
theorem dX7_needed_6 : decode cX7_needed 6 = .ok (.invokevirtual 187, 3) := by decide +kernel
theorem dX7_needed_9 : decode cX7_needed 9 = .ok (.istore_n 3, 1) := by decide +kernel
theorem dX7_needed_10 : decode cX7_needed 10 = .ok (.iload_n 3, 1) := by decide +kernel
theorem dX7_needed_11 : decode cX7_needed 11 = .ok (.ifCond .eq 7, 3) := by decide +kernel
theorem dX7_needed_14 : decode cX7_needed 14 = .ok (.iload_n 3, 1) := by decide +kernel
theorem dX7_needed_15 : decode cX7_needed 15 = .ok (.goto 16, 3) := by decide +kernel
theorem dX7_needed_18 : decode cX7_needed 18 = .ok (.aload_n 0, 1) := by decide +kernel
theorem dX7_needed_19 : decode cX7_needed 19 = .ok (.getfield 52, 3) := by decide +kernel
theorem dX7_needed_22 : decode cX7_needed 22 = .ok (.aload_n 0, 1) := by decide +kernel
theorem dX7_needed_23 : decode cX7_needed 23 = .ok (.getfield 26, 3) := by decide +kernel
theorem dX7_needed_26 : decode cX7_needed 26 = .ok (.iload_n 1, 1) := by decide +kernel
theorem dX7_needed_27 : decode cX7_needed 27 = .ok (.iload_n 2, 1) := by decide +kernel
theorem dX7_needed_28 : decode cX7_needed 28 = .ok (.invokevirtual 256, 3) := by decide +kernel
theorem dX7_needed_31 : decode cX7_needed 31 = .ok (.ireturn, 1) := by decide +kernel
theorem dX7_meet_0 : decode cX7_meet 0 = .ok (.aload_n 0, 1) := by decide +kernel
theorem dX7_meet_1 : decode cX7_meet 1 = .ok (.iload_n 1, 1) := by decide +kernel
theorem dX7_meet_2 : decode cX7_meet 2 = .ok (.invokevirtual 195, 3) := by decide +kernel
theorem dX7_meet_5 : decode cX7_meet 5 = .ok (.ifCond .eq 16, 3) := by decide +kernel
theorem dX7_meet_8 : decode cX7_meet 8 = .ok (.aload_n 0, 1) := by decide +kernel
theorem dX7_meet_9 : decode cX7_meet 9 = .ok (.iload_n 2, 1) := by decide +kernel
theorem dX7_meet_10 : decode cX7_meet 10 = .ok (.invokevirtual 195, 3) := by decide +kernel
theorem dX7_meet_13 : decode cX7_meet 13 = .ok (.ifCond .eq 8, 3) := by decide +kernel
theorem dX7_meet_16 : decode cX7_meet 16 = .ok (.iload_n 1, 1) := by decide +kernel
theorem dX7_meet_17 : decode cX7_meet 17 = .ok (.iload_n 2, 1) := by decide +kernel
theorem dX7_meet_18 : decode cX7_meet 18 = .ok (.if_icmp .ne 6, 3) := by decide +kernel
theorem dX7_meet_21 : decode cX7_meet 21 = .ok (.ldc 75, 2) := by decide +kernel
theorem dX7_meet_23 : decode cX7_meet 23 = .ok (.ireturn, 1) := by decide +kernel
theorem dX7_meet_24 : decode cX7_meet 24 = .ok (.aload_n 0, 1) := by decide +kernel
theorem dX7_meet_25 : decode cX7_meet 25 = .ok (.getfield 52, 3) := by decide +kernel
theorem dX7_meet_28 : decode cX7_meet 28 = .ok (.aload_n 0, 1) := by decide +kernel
theorem dX7_meet_29 : decode cX7_meet 29 = .ok (.getfield 26, 3) := by decide +kernel
theorem dX7_meet_32 : decode cX7_meet 32 = .ok (.iload_n 1, 1) := by decide +kernel
theorem dX7_meet_33 : decode cX7_meet 33 = .ok (.iload_n 2, 1) := by decide +kernel
theorem dX7_meet_34 : decode cX7_meet 34 = .ok (.invokevirtual 259, 3) := by decide +kernel
theorem dX7_meet_37 : decode cX7_meet 37 = .ok (.ireturn, 1) := by decide +kernel
theorem dX7_answer_0 : decode cX7_answer 0 = .ok (.aload_n 0, 1) := by decide +kernel
theorem dX7_answer_1 : decode cX7_answer 1 = .ok (.iload_n 1, 1) := by decide +kernel
theorem dX7_answer_2 : decode cX7_answer 2 = .ok (.iconst 1, 1) := by decide +kernel
theorem dX7_answer_3 : decode cX7_answer 3 = .ok (.invokevirtual 187, 3) := by decide +kernel
theorem dX7_answer_6 : decode cX7_answer 6 = .ok (.istore_n 2, 1) := by decide +kernel
theorem dX7_answer_7 : decode cX7_answer 7 = .ok (.iload_n 2, 1) := by decide +kernel
theorem dX7_answer_8 : decode cX7_answer 8 = .ok (.ifCond .eq 7, 3) := by decide +kernel
theorem dX7_answer_11 : decode cX7_answer 11 = .ok (.iload_n 2, 1) := by decide +kernel
theorem dX7_answer_12 : decode cX7_answer 12 = .ok (.goto 15, 3) := by decide +kernel
theorem dX7_answer_15 : decode cX7_answer 15 = .ok (.aload_n 0, 1) := by decide +kernel
theorem dX7_answer_16 : decode cX7_answer 16 = .ok (.getfield 52, 3) := by decide +kernel
theorem dX7_answer_19 : decode cX7_answer 19 = .ok (.aload_n 0, 1) := by decide +kernel
theorem dX7_answer_20 : decode cX7_answer 20 = .ok (.getfield 26, 3) := by decide +kernel
theorem dX7_answer_23 : decode cX7_answer 23 = .ok (.iload_n 1, 1) := by decide +kernel
theorem dX7_answer_24 : decode cX7_answer 24 = .ok (.invokevirtual 262, 3) := by decide +kernel
theorem dX7_answer_27 : decode cX7_answer 27 = .ok (.ireturn, 1) := by decide +kernel
theorem dX7_who_0 : decode cX7_who 0 = .ok (.aload_n 0, 1) := by decide +kernel
theorem dX7_who_1 : decode cX7_who 1 = .ok (.iload_n 1, 1) := by decide +kernel
theorem dX7_who_2 : decode cX7_who 2 = .ok (.invokevirtual 195, 3) := by decide +kernel
theorem dX7_who_5 : decode cX7_who 5 = .ok (.ifCond .eq 16, 3) := by decide +kernel
theorem dX7_who_8 : decode cX7_who 8 = .ok (.iload_n 2, 1) := by decide +kernel
theorem dX7_who_9 : decode cX7_who 9 = .ok (.iconst 0, 1) := by decide +kernel
theorem dX7_who_10 : decode cX7_who 10 = .ok (.iconst 1, 1) := by decide +kernel
theorem dX7_who_11 : decode cX7_who 11 = .ok (.invokestatic 71, 3) := by decide +kernel
theorem dX7_who_14 : decode cX7_who 14 = .ok (.ifCond .eq 7, 3) := by decide +kernel
theorem dX7_who_17 : decode cX7_who 17 = .ok (.iconst 1, 1) := by decide +kernel
theorem dX7_who_18 : decode cX7_who 18 = .ok (.goto 4, 3) := by decide +kernel
theorem dX7_who_21 : decode cX7_who 21 = .ok (.iconst 0, 1) := by decide +kernel
theorem dX7_who_22 : decode cX7_who 22 = .ok (.istore 7, 2) := by decide +kernel
theorem dX7_who_24 : decode cX7_who 24 = .ok (.aload_n 0, 1) := by decide +kernel
theorem dX7_who_25 : decode cX7_who 25 = .ok (.iload_n 3, 1) := by decide +kernel
theorem dX7_who_26 : decode cX7_who 26 = .ok (.iload 7, 2) := by decide +kernel
theorem dX7_who_28 : decode cX7_who 28 = .ok (.iload 4, 2) := by decide +kernel
theorem dX7_who_30 : decode cX7_who 30 = .ok (.iload 5, 2) := by decide +kernel
theorem dX7_who_32 : decode cX7_who 32 = .ok (.iload 6, 2) := by decide +kernel
theorem dX7_who_34 : decode cX7_who 34 = .ok (.invokevirtual 265, 3) := by decide +kernel
theorem dX7_who_37 : decode cX7_who 37 = .ok (.istore 8, 2) := by decide +kernel
theorem dX7_who_39 : decode cX7_who 39 = .ok (.iload 8, 2) := by decide +kernel
theorem dX7_who_41 : decode cX7_who 41 = .ok (.ifCond .eq 6, 3) := by decide +kernel
theorem dX7_who_44 : decode cX7_who 44 = .ok (.iload 8, 2) := by decide +kernel
theorem dX7_who_46 : decode cX7_who 46 = .ok (.ireturn, 1) := by decide +kernel
theorem dX7_who_47 : decode cX7_who 47 = .ok (.aload_n 0, 1) := by decide +kernel
theorem dX7_who_48 : decode cX7_who 48 = .ok (.iload_n 2, 1) := by decide +kernel
theorem dX7_who_49 : decode cX7_who 49 = .ok (.ifCond .ne 19, 3) := by decide +kernel
theorem dX7_who_52 : decode cX7_who 52 = .ok (.aload_n 0, 1) := by decide +kernel
theorem dX7_who_53 : decode cX7_who 53 = .ok (.getfield 52, 3) := by decide +kernel
theorem dX7_who_56 : decode cX7_who 56 = .ok (.aload_n 0, 1) := by decide +kernel
theorem dX7_who_57 : decode cX7_who 57 = .ok (.getfield 26, 3) := by decide +kernel
theorem dX7_who_60 : decode cX7_who 60 = .ok (.iload_n 1, 1) := by decide +kernel
theorem dX7_who_61 : decode cX7_who 61 = .ok (.iload_n 3, 1) := by decide +kernel
theorem dX7_who_62 : decode cX7_who 62 = .ok (.invokevirtual 269, 3) := by decide +kernel
theorem dX7_who_65 : decode cX7_who 65 = .ok (.goto 16, 3) := by decide +kernel
theorem dX7_who_68 : decode cX7_who 68 = .ok (.aload_n 0, 1) := by decide +kernel
theorem dX7_who_69 : decode cX7_who 69 = .ok (.getfield 52, 3) := by decide +kernel
theorem dX7_who_72 : decode cX7_who 72 = .ok (.aload_n 0, 1) := by decide +kernel
theorem dX7_who_73 : decode cX7_who 73 = .ok (.getfield 26, 3) := by decide +kernel
theorem dX7_who_76 : decode cX7_who 76 = .ok (.iload_n 1, 1) := by decide +kernel
theorem dX7_who_77 : decode cX7_who 77 = .ok (.iload_n 3, 1) := by decide +kernel
theorem dX7_who_78 : decode cX7_who 78 = .ok (.invokevirtual 272, 3) := by decide +kernel
theorem dX7_who_81 : decode cX7_who 81 = .ok (.invokevirtual 84, 3) := by decide +kernel
theorem dX7_who_84 : decode cX7_who 84 = .ok (.ireturn, 1) := by decide +kernel
theorem dX7_missing_0 : decode cX7_missing 0 = .ok (.aload_n 0, 1) := by decide +kernel
theorem dX7_missing_1 : decode cX7_missing 1 = .ok (.iload_n 1, 1) := by decide +kernel
theorem dX7_missing_2 : decode cX7_missing 2 = .ok (.iconst 1, 1) := by decide +kernel
theorem dX7_missing_3 : decode cX7_missing 3 = .ok (.iload_n 2, 1) := by decide +kernel
theorem dX7_missing_4 : decode cX7_missing 4 = .ok (.iload_n 3, 1) := by decide +kernel
theorem dX7_missing_5 : decode cX7_missing 5 = .ok (.iload 4, 2) := by decide +kernel
theorem dX7_missing_7 : decode cX7_missing 7 = .ok (.invokevirtual 265, 3) := by decide +kernel
theorem dX7_missing_10 : decode cX7_missing 10 = .ok (.istore 5, 2) := by decide +kernel
theorem dX7_missing_12 : decode cX7_missing 12 = .ok (.iload 5, 2) := by decide +kernel
theorem dX7_missing_14 : decode cX7_missing 14 = .ok (.ifCond .eq 8, 3) := by decide +kernel
theorem dX7_missing_17 : decode cX7_missing 17 = .ok (.iload 5, 2) := by decide +kernel
theorem dX7_missing_19 : decode cX7_missing 19 = .ok (.goto 19, 3) := by decide +kernel
theorem dX7_missing_22 : decode cX7_missing 22 = .ok (.aload_n 0, 1) := by decide +kernel
theorem dX7_missing_23 : decode cX7_missing 23 = .ok (.aload_n 0, 1) := by decide +kernel
theorem dX7_missing_24 : decode cX7_missing 24 = .ok (.getfield 52, 3) := by decide +kernel
theorem dX7_missing_27 : decode cX7_missing 27 = .ok (.aload_n 0, 1) := by decide +kernel
theorem dX7_missing_28 : decode cX7_missing 28 = .ok (.getfield 26, 3) := by decide +kernel
theorem dX7_missing_31 : decode cX7_missing 31 = .ok (.iload_n 1, 1) := by decide +kernel
theorem dX7_missing_32 : decode cX7_missing 32 = .ok (.invokevirtual 275, 3) := by decide +kernel
theorem dX7_missing_35 : decode cX7_missing 35 = .ok (.invokevirtual 84, 3) := by decide +kernel
theorem dX7_missing_38 : decode cX7_missing 38 = .ok (.ireturn, 1) := by decide +kernel
theorem dX7_goals_0 : decode cX7_goals 0 = .ok (.aload_n 0, 1) := by decide +kernel
theorem dX7_goals_1 : decode cX7_goals 1 = .ok (.iload_n 1, 1) := by decide +kernel
theorem dX7_goals_2 : decode cX7_goals 2 = .ok (.iconst 1, 1) := by decide +kernel
theorem dX7_goals_3 : decode cX7_goals 3 = .ok (.iload_n 2, 1) := by decide +kernel
theorem dX7_goals_4 : decode cX7_goals 4 = .ok (.iload_n 3, 1) := by decide +kernel
theorem dX7_goals_5 : decode cX7_goals 5 = .ok (.iload 4, 2) := by decide +kernel
theorem dX7_goals_7 : decode cX7_goals 7 = .ok (.invokevirtual 265, 3) := by decide +kernel
theorem dX7_goals_10 : decode cX7_goals 10 = .ok (.istore 5, 2) := by decide +kernel
theorem dX7_goals_12 : decode cX7_goals 12 = .ok (.iload 5, 2) := by decide +kernel
theorem dX7_goals_14 : decode cX7_goals 14 = .ok (.ifCond .eq 8, 3) := by decide +kernel
theorem dX7_goals_17 : decode cX7_goals 17 = .ok (.iload 5, 2) := by decide +kernel
theorem dX7_goals_19 : decode cX7_goals 19 = .ok (.goto 19, 3) := by decide +kernel
theorem dX7_goals_22 : decode cX7_goals 22 = .ok (.aload_n 0, 1) := by decide +kernel
theorem dX7_goals_23 : decode cX7_goals 23 = .ok (.aload_n 0, 1) := by decide +kernel
theorem dX7_goals_24 : decode cX7_goals 24 = .ok (.getfield 52, 3) := by decide +kernel
theorem dX7_goals_27 : decode cX7_goals 27 = .ok (.aload_n 0, 1) := by decide +kernel
theorem dX7_goals_28 : decode cX7_goals 28 = .ok (.getfield 26, 3) := by decide +kernel
theorem dX7_goals_31 : decode cX7_goals 31 = .ok (.iload_n 1, 1) := by decide +kernel
theorem dX7_goals_32 : decode cX7_goals 32 = .ok (.invokevirtual 278, 3) := by decide +kernel
theorem dX7_goals_35 : decode cX7_goals 35 = .ok (.invokevirtual 84, 3) := by decide +kernel
theorem dX7_goals_38 : decode cX7_goals 38 = .ok (.ireturn, 1) := by decide +kernel
theorem dX7_busy_0 : decode cX7_busy 0 = .ok (.aload_n 0, 1) := by decide +kernel
theorem dX7_busy_1 : decode cX7_busy 1 = .ok (.getfield 26, 3) := by decide +kernel
theorem dX7_busy_4 : decode cX7_busy 4 = .ok (.invokevirtual 155, 3) := by decide +kernel
theorem dX7_busy_7 : decode cX7_busy 7 = .ok (.ifCond .ne 6, 3) := by decide +kernel
theorem dX7_busy_10 : decode cX7_busy 10 = .ok (.ldc 154, 2) := by decide +kernel
theorem dX7_busy_12 : decode cX7_busy 12 = .ok (.ireturn, 1) := by decide +kernel
theorem dX7_busy_13 : decode cX7_busy 13 = .ok (.iload_n 1, 1) := by decide +kernel
theorem dX7_busy_14 : decode cX7_busy 14 = .ok (.invokestatic 237, 3) := by decide +kernel
theorem dX7_busy_17 : decode cX7_busy 17 = .ok (.ifCond .eq 12, 3) := by decide +kernel
theorem dX7_busy_20 : decode cX7_busy 20 = .ok (.iload_n 2, 1) := by decide +kernel
theorem dX7_busy_21 : decode cX7_busy 21 = .ok (.iconst 0, 1) := by decide +kernel
theorem dX7_busy_22 : decode cX7_busy 22 = .ok (.iconst 1, 1) := by decide +kernel
theorem dX7_busy_23 : decode cX7_busy 23 = .ok (.invokestatic 71, 3) := by decide +kernel
theorem dX7_busy_26 : decode cX7_busy 26 = .ok (.ifCond .ne 6, 3) := by decide +kernel
theorem dX7_busy_29 : decode cX7_busy 29 = .ok (.ldc 75, 2) := by decide +kernel
theorem dX7_busy_31 : decode cX7_busy 31 = .ok (.ireturn, 1) := by decide +kernel
theorem dX7_busy_32 : decode cX7_busy 32 = .ok (.aload_n 0, 1) := by decide +kernel
theorem dX7_busy_33 : decode cX7_busy 33 = .ok (.getfield 52, 3) := by decide +kernel
theorem dX7_busy_36 : decode cX7_busy 36 = .ok (.aload_n 0, 1) := by decide +kernel
theorem dX7_busy_37 : decode cX7_busy 37 = .ok (.getfield 26, 3) := by decide +kernel
theorem dX7_busy_40 : decode cX7_busy 40 = .ok (.iload_n 1, 1) := by decide +kernel
theorem dX7_busy_41 : decode cX7_busy 41 = .ok (.iload_n 2, 1) := by decide +kernel
theorem dX7_busy_42 : decode cX7_busy 42 = .ok (.invokevirtual 281, 3) := by decide +kernel
theorem dX7_busy_45 : decode cX7_busy 45 = .ok (.ireturn, 1) := by decide +kernel
theorem dX7_sick_0 : decode cX7_sick 0 = .ok (.iload_n 2, 1) := by decide +kernel
theorem dX7_sick_1 : decode cX7_sick 1 = .ok (.iconst 0, 1) := by decide +kernel
theorem dX7_sick_2 : decode cX7_sick 2 = .ok (.bipush 99, 2) := by decide +kernel
theorem dX7_sick_4 : decode cX7_sick 4 = .ok (.invokestatic 71, 3) := by decide +kernel
theorem dX7_sick_7 : decode cX7_sick 7 = .ok (.ifCond .eq 27, 3) := by decide +kernel
theorem dX7_sick_10 : decode cX7_sick 10 = .ok (.iload_n 3, 1) := by decide +kernel
theorem dX7_sick_11 : decode cX7_sick 11 = .ok (.iconst 0, 1) := by decide +kernel
theorem dX7_sick_12 : decode cX7_sick 12 = .ok (.bipush 10, 2) := by decide +kernel
theorem dX7_sick_14 : decode cX7_sick 14 = .ok (.invokestatic 71, 3) := by decide +kernel
theorem dX7_sick_17 : decode cX7_sick 17 = .ok (.ifCond .eq 17, 3) := by decide +kernel
theorem dX7_sick_20 : decode cX7_sick 20 = .ok (.iload 4, 2) := by decide +kernel
theorem dX7_sick_22 : decode cX7_sick 22 = .ok (.iconst 0, 1) := by decide +kernel
theorem dX7_sick_23 : decode cX7_sick 23 = .ok (.iconst 1, 1) := by decide +kernel
theorem dX7_sick_24 : decode cX7_sick 24 = .ok (.invokestatic 71, 3) := by decide +kernel
theorem dX7_sick_27 : decode cX7_sick 27 = .ok (.ifCond .eq 7, 3) := by decide +kernel
theorem dX7_sick_30 : decode cX7_sick 30 = .ok (.iconst 1, 1) := by decide +kernel
theorem dX7_sick_31 : decode cX7_sick 31 = .ok (.goto 4, 3) := by decide +kernel
theorem dX7_sick_34 : decode cX7_sick 34 = .ok (.iconst 0, 1) := by decide +kernel
theorem dX7_sick_35 : decode cX7_sick 35 = .ok (.istore 5, 2) := by decide +kernel
theorem dX7_sick_37 : decode cX7_sick 37 = .ok (.aload_n 0, 1) := by decide +kernel
theorem dX7_sick_38 : decode cX7_sick 38 = .ok (.iload_n 1, 1) := by decide +kernel
theorem dX7_sick_39 : decode cX7_sick 39 = .ok (.iload 5, 2) := by decide +kernel
theorem dX7_sick_41 : decode cX7_sick 41 = .ok (.invokevirtual 187, 3) := by decide +kernel
theorem dX7_sick_44 : decode cX7_sick 44 = .ok (.istore 6, 2) := by decide +kernel
theorem dX7_sick_46 : decode cX7_sick 46 = .ok (.iload 6, 2) := by decide +kernel
theorem dX7_sick_48 : decode cX7_sick 48 = .ok (.ifCond .eq 9, 3) := by decide +kernel
theorem dX7_sick_51 : decode cX7_sick 51 = .ok (.iload 6, 2) := by decide +kernel
theorem dX7_sick_53 : decode cX7_sick 53 = .ok (.i2l, 1) := by decide +kernel
theorem dX7_sick_54 : decode cX7_sick 54 = .ok (.goto 19, 3) := by decide +kernel
theorem dX7_sick_57 : decode cX7_sick 57 = .ok (.aload_n 0, 1) := by decide +kernel
theorem dX7_sick_58 : decode cX7_sick 58 = .ok (.getfield 52, 3) := by decide +kernel
theorem dX7_sick_61 : decode cX7_sick 61 = .ok (.aload_n 0, 1) := by decide +kernel
theorem dX7_sick_62 : decode cX7_sick 62 = .ok (.getfield 26, 3) := by decide +kernel
theorem dX7_sick_65 : decode cX7_sick 65 = .ok (.iload_n 1, 1) := by decide +kernel
theorem dX7_sick_66 : decode cX7_sick 66 = .ok (.iload_n 2, 1) := by decide +kernel
theorem dX7_sick_67 : decode cX7_sick 67 = .ok (.iload_n 3, 1) := by decide +kernel
theorem dX7_sick_68 : decode cX7_sick 68 = .ok (.iload 4, 2) := by decide +kernel
theorem dX7_sick_70 : decode cX7_sick 70 = .ok (.invokevirtual 284, 3) := by decide +kernel
theorem dX7_sick_73 : decode cX7_sick 73 = .ok (.lreturn, 1) := by decide +kernel
theorem dX7_drawn_0 : decode cX7_drawn 0 = .ok (.aload_n 0, 1) := by decide +kernel
theorem dX7_drawn_1 : decode cX7_drawn 1 = .ok (.getfield 26, 3) := by decide +kernel
theorem dX7_drawn_4 : decode cX7_drawn 4 = .ok (.invokevirtual 155, 3) := by decide +kernel
theorem dX7_drawn_7 : decode cX7_drawn 7 = .ok (.ifCond .ne 6, 3) := by decide +kernel
theorem dX7_drawn_10 : decode cX7_drawn 10 = .ok (.ldc 154, 2) := by decide +kernel
theorem dX7_drawn_12 : decode cX7_drawn 12 = .ok (.ireturn, 1) := by decide +kernel
theorem dX7_drawn_13 : decode cX7_drawn 13 = .ok (.iload_n 1, 1) := by decide +kernel
theorem dX7_drawn_14 : decode cX7_drawn 14 = .ok (.iconst 0, 1) := by decide +kernel
theorem dX7_drawn_15 : decode cX7_drawn 15 = .ok (.bipush 99, 2) := by decide +kernel
theorem dX7_drawn_17 : decode cX7_drawn 17 = .ok (.invokestatic 71, 3) := by decide +kernel
theorem dX7_drawn_20 : decode cX7_drawn 20 = .ok (.ifCond .eq 23, 3) := by decide +kernel
theorem dX7_drawn_23 : decode cX7_drawn 23 = .ok (.iload_n 2, 1) := by decide +kernel
theorem dX7_drawn_24 : decode cX7_drawn 24 = .ok (.iconst 1, 1) := by decide +kernel
theorem dX7_drawn_25 : decode cX7_drawn 25 = .ok (.ldc_w 288, 3) := by decide +kernel
theorem dX7_drawn_28 : decode cX7_drawn 28 = .ok (.invokestatic 71, 3) := by decide +kernel
theorem dX7_drawn_31 : decode cX7_drawn 31 = .ok (.ifCond .eq 12, 3) := by decide +kernel
theorem dX7_drawn_34 : decode cX7_drawn 34 = .ok (.iload_n 3, 1) := by decide +kernel
theorem dX7_drawn_35 : decode cX7_drawn 35 = .ok (.iconst 0, 1) := by decide +kernel
theorem dX7_drawn_36 : decode cX7_drawn 36 = .ok (.iconst 1, 1) := by decide +kernel
theorem dX7_drawn_37 : decode cX7_drawn 37 = .ok (.invokestatic 71, 3) := by decide +kernel
theorem dX7_drawn_40 : decode cX7_drawn 40 = .ok (.ifCond .ne 6, 3) := by decide +kernel
theorem dX7_drawn_43 : decode cX7_drawn 43 = .ok (.ldc 75, 2) := by decide +kernel
theorem dX7_drawn_45 : decode cX7_drawn 45 = .ok (.ireturn, 1) := by decide +kernel
theorem dX7_drawn_46 : decode cX7_drawn 46 = .ok (.aload_n 0, 1) := by decide +kernel
theorem dX7_drawn_47 : decode cX7_drawn 47 = .ok (.getfield 52, 3) := by decide +kernel
theorem dX7_drawn_50 : decode cX7_drawn 50 = .ok (.aload_n 0, 1) := by decide +kernel
theorem dX7_drawn_51 : decode cX7_drawn 51 = .ok (.getfield 26, 3) := by decide +kernel
theorem dX7_drawn_54 : decode cX7_drawn 54 = .ok (.iload_n 1, 1) := by decide +kernel
theorem dX7_drawn_55 : decode cX7_drawn 55 = .ok (.iload_n 2, 1) := by decide +kernel
theorem dX7_drawn_56 : decode cX7_drawn 56 = .ok (.iload_n 3, 1) := by decide +kernel
theorem dX7_drawn_57 : decode cX7_drawn 57 = .ok (.invokevirtual 289, 3) := by decide +kernel
theorem dX7_drawn_60 : decode cX7_drawn 60 = .ok (.ireturn, 1) := by decide +kernel
theorem dX7_image_0 : decode cX7_image 0 = .ok (.iload_n 1, 1) := by decide +kernel
theorem dX7_image_1 : decode cX7_image 1 = .ok (.iconst 0, 1) := by decide +kernel
theorem dX7_image_2 : decode cX7_image 2 = .ok (.iconst 1, 1) := by decide +kernel
theorem dX7_image_3 : decode cX7_image 3 = .ok (.invokestatic 71, 3) := by decide +kernel
theorem dX7_image_6 : decode cX7_image 6 = .ok (.ifCond .ne 6, 3) := by decide +kernel
theorem dX7_image_9 : decode cX7_image 9 = .ok (.ldc 75, 2) := by decide +kernel
theorem dX7_image_11 : decode cX7_image 11 = .ok (.ireturn, 1) := by decide +kernel
theorem dX7_image_12 : decode cX7_image 12 = .ok (.aload_n 0, 1) := by decide +kernel
theorem dX7_image_13 : decode cX7_image 13 = .ok (.getfield 26, 3) := by decide +kernel
theorem dX7_image_16 : decode cX7_image 16 = .ok (.invokevirtual 155, 3) := by decide +kernel
theorem dX7_image_19 : decode cX7_image 19 = .ok (.ifCond .ne 6, 3) := by decide +kernel
theorem dX7_image_22 : decode cX7_image 22 = .ok (.ldc 154, 2) := by decide +kernel
theorem dX7_image_24 : decode cX7_image 24 = .ok (.ireturn, 1) := by decide +kernel
theorem dX7_image_25 : decode cX7_image 25 = .ok (.aload_n 0, 1) := by decide +kernel
theorem dX7_image_26 : decode cX7_image 26 = .ok (.getfield 63, 3) := by decide +kernel
theorem dX7_image_29 : decode cX7_image 29 = .ok (.iload_n 1, 1) := by decide +kernel
theorem dX7_image_30 : decode cX7_image 30 = .ok (.aaload, 1) := by decide +kernel
theorem dX7_image_31 : decode cX7_image 31 = .ok (.aload_n 0, 1) := by decide +kernel
theorem dX7_image_32 : decode cX7_image 32 = .ok (.getfield 26, 3) := by decide +kernel
theorem dX7_image_35 : decode cX7_image 35 = .ok (.invokevirtual 137, 3) := by decide +kernel
theorem dX7_image_38 : decode cX7_image 38 = .ok (.iconst 1, 1) := by decide +kernel
theorem dX7_image_39 : decode cX7_image 39 = .ok (.ireturn, 1) := by decide +kernel
theorem dX7_restore_0 : decode cX7_restore 0 = .ok (.iload_n 1, 1) := by decide +kernel
theorem dX7_restore_1 : decode cX7_restore 1 = .ok (.iconst 0, 1) := by decide +kernel
theorem dX7_restore_2 : decode cX7_restore 2 = .ok (.iconst 1, 1) := by decide +kernel
theorem dX7_restore_3 : decode cX7_restore 3 = .ok (.invokestatic 71, 3) := by decide +kernel
theorem dX7_restore_6 : decode cX7_restore 6 = .ok (.ifCond .ne 6, 3) := by decide +kernel
theorem dX7_restore_9 : decode cX7_restore 9 = .ok (.ldc 75, 2) := by decide +kernel
theorem dX7_restore_11 : decode cX7_restore 11 = .ok (.ireturn, 1) := by decide +kernel
theorem dX7_restore_12 : decode cX7_restore 12 = .ok (.aload_n 0, 1) := by decide +kernel
theorem dX7_restore_13 : decode cX7_restore 13 = .ok (.getfield 63, 3) := by decide +kernel
theorem dX7_restore_16 : decode cX7_restore 16 = .ok (.iload_n 1, 1) := by decide +kernel
theorem dX7_restore_17 : decode cX7_restore 17 = .ok (.aaload, 1) := by decide +kernel
theorem dX7_restore_18 : decode cX7_restore 18 = .ok (.invokevirtual 155, 3) := by decide +kernel
theorem dX7_restore_21 : decode cX7_restore 21 = .ok (.ifCond .ne 6, 3) := by decide +kernel
theorem dX7_restore_24 : decode cX7_restore 24 = .ok (.ldc 154, 2) := by decide +kernel
theorem dX7_restore_26 : decode cX7_restore 26 = .ok (.ireturn, 1) := by decide +kernel
theorem dX7_restore_27 : decode cX7_restore 27 = .ok (.aload_n 0, 1) := by decide +kernel
theorem dX7_restore_28 : decode cX7_restore 28 = .ok (.getfield 26, 3) := by decide +kernel
theorem dX7_restore_31 : decode cX7_restore 31 = .ok (.aload_n 0, 1) := by decide +kernel
theorem dX7_restore_32 : decode cX7_restore 32 = .ok (.getfield 63, 3) := by decide +kernel
theorem dX7_restore_35 : decode cX7_restore 35 = .ok (.iload_n 1, 1) := by decide +kernel
theorem dX7_restore_36 : decode cX7_restore 36 = .ok (.aaload, 1) := by decide +kernel
theorem dX7_restore_37 : decode cX7_restore 37 = .ok (.invokevirtual 137, 3) := by decide +kernel
theorem dX7_restore_40 : decode cX7_restore 40 = .ok (.aload_n 0, 1) := by decide +kernel
theorem dX7_restore_41 : decode cX7_restore 41 = .ok (.getfield 36, 3) := by decide +kernel
theorem dX7_restore_44 : decode cX7_restore 44 = .ok (.invokevirtual 141, 3) := by decide +kernel
theorem dX7_restore_47 : decode cX7_restore 47 = .ok (.iconst 1, 1) := by decide +kernel
theorem dX7_restore_48 : decode cX7_restore 48 = .ok (.ireturn, 1) := by decide +kernel
theorem dX7_kind_0 : decode cX7_kind 0 = .ok (.aload_n 0, 1) := by decide +kernel
theorem dX7_kind_1 : decode cX7_kind 1 = .ok (.iload_n 1, 1) := by decide +kernel
theorem dX7_kind_2 : decode cX7_kind 2 = .ok (.invokevirtual 195, 3) := by decide +kernel
theorem dX7_kind_5 : decode cX7_kind 5 = .ok (.ifCond .eq 15, 3) := by decide +kernel
theorem dX7_kind_8 : decode cX7_kind 8 = .ok (.aload_n 0, 1) := by decide +kernel
theorem dX7_kind_9 : decode cX7_kind 9 = .ok (.getfield 26, 3) := by decide +kernel
theorem dX7_kind_12 : decode cX7_kind 12 = .ok (.getfield 292, 3) := by decide +kernel
theorem dX7_kind_15 : decode cX7_kind 15 = .ok (.iload_n 1, 1) := by decide +kernel
theorem dX7_kind_16 : decode cX7_kind 16 = .ok (.iaload, 1) := by decide +kernel
theorem dX7_kind_17 : decode cX7_kind 17 = .ok (.goto 5, 3) := by decide +kernel
theorem dX7_kind_20 : decode cX7_kind 20 = .ok (.ldc 75, 2) := by decide +kernel
theorem dX7_kind_22 : decode cX7_kind 22 = .ok (.ireturn, 1) := by decide +kernel
theorem dX7_as_0 : decode cX7_as 0 = .ok (.aload_n 0, 1) := by decide +kernel
theorem dX7_as_1 : decode cX7_as 1 = .ok (.iload_n 1, 1) := by decide +kernel
theorem dX7_as_2 : decode cX7_as 2 = .ok (.invokevirtual 195, 3) := by decide +kernel
theorem dX7_as_5 : decode cX7_as 5 = .ok (.ifCond .eq 12, 3) := by decide +kernel
theorem dX7_as_8 : decode cX7_as 8 = .ok (.iload_n 2, 1) := by decide +kernel
theorem dX7_as_9 : decode cX7_as 9 = .ok (.iconst 0, 1) := by decide +kernel
theorem dX7_as_10 : decode cX7_as 10 = .ok (.iconst 5, 1) := by decide +kernel
theorem dX7_as_11 : decode cX7_as 11 = .ok (.invokestatic 71, 3) := by decide +kernel
theorem dX7_as_14 : decode cX7_as 14 = .ok (.ifCond .ne 6, 3) := by decide +kernel
theorem dX7_as_17 : decode cX7_as 17 = .ok (.ldc 75, 2) := by decide +kernel
theorem dX7_as_19 : decode cX7_as 19 = .ok (.ireturn, 1) := by decide +kernel
theorem dX7_as_20 : decode cX7_as 20 = .ok (.aload_n 0, 1) := by decide +kernel
theorem dX7_as_21 : decode cX7_as 21 = .ok (.getfield 26, 3) := by decide +kernel
theorem dX7_as_24 : decode cX7_as 24 = .ok (.getfield 292, 3) := by decide +kernel
theorem dX7_as_27 : decode cX7_as 27 = .ok (.iload_n 1, 1) := by decide +kernel
theorem dX7_as_28 : decode cX7_as 28 = .ok (.iaload, 1) := by decide +kernel
theorem dX7_as_29 : decode cX7_as 29 = .ok (.iload_n 2, 1) := by decide +kernel
theorem dX7_as_30 : decode cX7_as 30 = .ok (.invokestatic 295, 3) := by decide +kernel
theorem dX7_as_33 : decode cX7_as 33 = .ok (.ifCond .eq 11, 3) := by decide +kernel
theorem dX7_as_36 : decode cX7_as 36 = .ok (.aload_n 0, 1) := by decide +kernel
theorem dX7_as_37 : decode cX7_as 37 = .ok (.iload_n 1, 1) := by decide +kernel
theorem dX7_as_38 : decode cX7_as 38 = .ok (.invokevirtual 84, 3) := by decide +kernel
theorem dX7_as_41 : decode cX7_as 41 = .ok (.goto 8, 3) := by decide +kernel
theorem dX7_as_44 : decode cX7_as 44 = .ok (.aload_n 0, 1) := by decide +kernel
theorem dX7_as_45 : decode cX7_as 45 = .ok (.iconst 3, 1) := by decide +kernel
theorem dX7_as_46 : decode cX7_as 46 = .ok (.invokevirtual 76, 3) := by decide +kernel
theorem dX7_as_49 : decode cX7_as 49 = .ok (.ireturn, 1) := by decide +kernel
theorem dX7_ask_0 : decode cX7_ask 0 = .ok (.aload_n 0, 1) := by decide +kernel
theorem dX7_ask_1 : decode cX7_ask 1 = .ok (.iload_n 1, 1) := by decide +kernel
theorem dX7_ask_2 : decode cX7_ask 2 = .ok (.invokevirtual 195, 3) := by decide +kernel
theorem dX7_ask_5 : decode cX7_ask 5 = .ok (.ifCond .eq 12, 3) := by decide +kernel
theorem dX7_ask_8 : decode cX7_ask 8 = .ok (.iload_n 2, 1) := by decide +kernel
theorem dX7_ask_9 : decode cX7_ask 9 = .ok (.iconst 0, 1) := by decide +kernel
theorem dX7_ask_10 : decode cX7_ask 10 = .ok (.iconst 1, 1) := by decide +kernel
theorem dX7_ask_11 : decode cX7_ask 11 = .ok (.invokestatic 71, 3) := by decide +kernel
theorem dX7_ask_14 : decode cX7_ask 14 = .ok (.ifCond .ne 6, 3) := by decide +kernel
theorem dX7_ask_17 : decode cX7_ask 17 = .ok (.ldc 75, 2) := by decide +kernel
theorem dX7_ask_19 : decode cX7_ask 19 = .ok (.ireturn, 1) := by decide +kernel
theorem dX7_ask_20 : decode cX7_ask 20 = .ok (.aload_n 0, 1) := by decide +kernel
theorem dX7_ask_21 : decode cX7_ask 21 = .ok (.getfield 59, 3) := by decide +kernel
theorem dX7_ask_24 : decode cX7_ask 24 = .ok (.aload_n 0, 1) := by decide +kernel
theorem dX7_ask_25 : decode cX7_ask 25 = .ok (.getfield 26, 3) := by decide +kernel
theorem dX7_ask_28 : decode cX7_ask 28 = .ok (.iload_n 1, 1) := by decide +kernel
theorem dX7_ask_29 : decode cX7_ask 29 = .ok (.iload_n 2, 1) := by decide +kernel
theorem dX7_ask_30 : decode cX7_ask 30 = .ok (.invokevirtual 299, 3) := by decide +kernel
theorem dX7_ask_33 : decode cX7_ask 33 = .ok (.ireturn, 1) := by decide +kernel
theorem dX7_trace_0 : decode cX7_trace 0 = .ok (.aload_n 0, 1) := by decide +kernel
theorem dX7_trace_1 : decode cX7_trace 1 = .ok (.getfield 59, 3) := by decide +kernel
theorem dX7_trace_4 : decode cX7_trace 4 = .ok (.iload_n 1, 1) := by decide +kernel
theorem dX7_trace_5 : decode cX7_trace 5 = .ok (.invokevirtual 301, 3) := by decide +kernel
theorem dX7_trace_8 : decode cX7_trace 8 = .ok (.ireturn, 1) := by decide +kernel
theorem dX7_count_0 : decode cX7_count 0 = .ok (.iload_n 1, 1) := by decide +kernel
theorem dX7_count_1 : decode cX7_count 1 = .ok (.tableswitch 111 0 7 #[47, 55, 63, 71, 79, 87, 95, 103], 47) := by decide +kernel
theorem dX7_count_48 : decode cX7_count 48 = .ok (.aload_n 0, 1) := by decide +kernel
theorem dX7_count_49 : decode cX7_count 49 = .ok (.getfield 10, 3) := by decide +kernel
theorem dX7_count_52 : decode cX7_count 52 = .ok (.invokevirtual 304, 3) := by decide +kernel
theorem dX7_count_55 : decode cX7_count 55 = .ok (.ireturn, 1) := by decide +kernel
theorem dX7_count_56 : decode cX7_count 56 = .ok (.aload_n 0, 1) := by decide +kernel
theorem dX7_count_57 : decode cX7_count 57 = .ok (.getfield 26, 3) := by decide +kernel
theorem dX7_count_60 : decode cX7_count 60 = .ok (.getfield 307, 3) := by decide +kernel
theorem dX7_count_63 : decode cX7_count 63 = .ok (.ireturn, 1) := by decide +kernel
theorem dX7_count_64 : decode cX7_count 64 = .ok (.aload_n 0, 1) := by decide +kernel
theorem dX7_count_65 : decode cX7_count 65 = .ok (.getfield 26, 3) := by decide +kernel
theorem dX7_count_68 : decode cX7_count 68 = .ok (.getfield 144, 3) := by decide +kernel
theorem dX7_count_71 : decode cX7_count 71 = .ok (.ireturn, 1) := by decide +kernel
theorem dX7_count_72 : decode cX7_count 72 = .ok (.aload_n 0, 1) := by decide +kernel
theorem dX7_count_73 : decode cX7_count 73 = .ok (.getfield 26, 3) := by decide +kernel
theorem dX7_count_76 : decode cX7_count 76 = .ok (.getfield 159, 3) := by decide +kernel
theorem dX7_count_79 : decode cX7_count 79 = .ok (.ireturn, 1) := by decide +kernel
theorem dX7_count_80 : decode cX7_count 80 = .ok (.aload_n 0, 1) := by decide +kernel
theorem dX7_count_81 : decode cX7_count 81 = .ok (.getfield 26, 3) := by decide +kernel
theorem dX7_count_84 : decode cX7_count 84 = .ok (.getfield 184, 3) := by decide +kernel
theorem dX7_count_87 : decode cX7_count 87 = .ok (.ireturn, 1) := by decide +kernel
theorem dX7_count_88 : decode cX7_count 88 = .ok (.aload_n 0, 1) := by decide +kernel
theorem dX7_count_89 : decode cX7_count 89 = .ok (.getfield 26, 3) := by decide +kernel
theorem dX7_count_92 : decode cX7_count 92 = .ok (.getfield 204, 3) := by decide +kernel
theorem dX7_count_95 : decode cX7_count 95 = .ok (.ireturn, 1) := by decide +kernel
theorem dX7_count_96 : decode cX7_count 96 = .ok (.aload_n 0, 1) := by decide +kernel
theorem dX7_count_97 : decode cX7_count 97 = .ok (.getfield 36, 3) := by decide +kernel
theorem dX7_count_100 : decode cX7_count 100 = .ok (.invokevirtual 151, 3) := by decide +kernel
theorem dX7_count_103 : decode cX7_count 103 = .ok (.ireturn, 1) := by decide +kernel
theorem dX7_count_104 : decode cX7_count 104 = .ok (.aload_n 0, 1) := by decide +kernel
theorem dX7_count_105 : decode cX7_count 105 = .ok (.getfield 19, 3) := by decide +kernel
theorem dX7_count_108 : decode cX7_count 108 = .ok (.invokevirtual 117, 3) := by decide +kernel
theorem dX7_count_111 : decode cX7_count 111 = .ok (.ireturn, 1) := by decide +kernel
theorem dX7_count_112 : decode cX7_count 112 = .ok (.ldc 75, 2) := by decide +kernel
theorem dX7_count_114 : decode cX7_count 114 = .ok (.ireturn, 1) := by decide +kernel
theorem dX7_status_0 : decode cX7_status 0 = .ok (.aload_n 0, 1) := by decide +kernel
theorem dX7_status_1 : decode cX7_status 1 = .ok (.getfield 310, 3) := by decide +kernel
theorem dX7_status_4 : decode cX7_status 4 = .ok (.ireturn, 1) := by decide +kernel
theorem dX7_within_0 : decode cX7_within 0 = .ok (.iload_n 0, 1) := by decide +kernel
theorem dX7_within_1 : decode cX7_within 1 = .ok (.iload_n 1, 1) := by decide +kernel
theorem dX7_within_2 : decode cX7_within 2 = .ok (.if_icmp .lt 12, 3) := by decide +kernel
theorem dX7_within_5 : decode cX7_within 5 = .ok (.iload_n 0, 1) := by decide +kernel
theorem dX7_within_6 : decode cX7_within 6 = .ok (.iload_n 2, 1) := by decide +kernel
theorem dX7_within_7 : decode cX7_within 7 = .ok (.if_icmp .gt 7, 3) := by decide +kernel
theorem dX7_within_10 : decode cX7_within 10 = .ok (.iconst 1, 1) := by decide +kernel
theorem dX7_within_11 : decode cX7_within 11 = .ok (.goto 4, 3) := by decide +kernel
theorem dX7_within_14 : decode cX7_within 14 = .ok (.iconst 0, 1) := by decide +kernel
theorem dX7_within_15 : decode cX7_within 15 = .ok (.ireturn, 1) := by decide +kernel
theorem dX7_isSpan_0 : decode cX7_isSpan 0 = .ok (.iload_n 0, 1) := by decide +kernel
theorem dX7_isSpan_1 : decode cX7_isSpan 1 = .ok (.iconst 1, 1) := by decide +kernel
theorem dX7_isSpan_2 : decode cX7_isSpan 2 = .ok (.bipush 99, 2) := by decide +kernel
theorem dX7_isSpan_4 : decode cX7_isSpan 4 = .ok (.invokestatic 71, 3) := by decide +kernel
theorem dX7_isSpan_7 : decode cX7_isSpan 7 = .ok (.ireturn, 1) := by decide +kernel
theorem dX7_isPerson_0 : decode cX7_isPerson 0 = .ok (.iload_n 1, 1) := by decide +kernel
theorem dX7_isPerson_1 : decode cX7_isPerson 1 = .ok (.ifCond .lt 18, 3) := by decide +kernel
theorem dX7_isPerson_4 : decode cX7_isPerson 4 = .ok (.iload_n 1, 1) := by decide +kernel
theorem dX7_isPerson_5 : decode cX7_isPerson 5 = .ok (.aload_n 0, 1) := by decide +kernel
theorem dX7_isPerson_6 : decode cX7_isPerson 6 = .ok (.getfield 26, 3) := by decide +kernel
theorem dX7_isPerson_9 : decode cX7_isPerson 9 = .ok (.getfield 144, 3) := by decide +kernel
theorem dX7_isPerson_12 : decode cX7_isPerson 12 = .ok (.if_icmp .ge 7, 3) := by decide +kernel
theorem dX7_isPerson_15 : decode cX7_isPerson 15 = .ok (.iconst 1, 1) := by decide +kernel
theorem dX7_isPerson_16 : decode cX7_isPerson 16 = .ok (.goto 4, 3) := by decide +kernel
theorem dX7_isPerson_19 : decode cX7_isPerson 19 = .ok (.iconst 0, 1) := by decide +kernel
theorem dX7_isPerson_20 : decode cX7_isPerson 20 = .ok (.ireturn, 1) := by decide +kernel
theorem dX7_isLane_0 : decode cX7_isLane 0 = .ok (.iload_n 1, 1) := by decide +kernel
theorem dX7_isLane_1 : decode cX7_isLane 1 = .ok (.ifCond .lt 18, 3) := by decide +kernel
theorem dX7_isLane_4 : decode cX7_isLane 4 = .ok (.iload_n 1, 1) := by decide +kernel
theorem dX7_isLane_5 : decode cX7_isLane 5 = .ok (.aload_n 0, 1) := by decide +kernel
theorem dX7_isLane_6 : decode cX7_isLane 6 = .ok (.getfield 26, 3) := by decide +kernel
theorem dX7_isLane_9 : decode cX7_isLane 9 = .ok (.getfield 307, 3) := by decide +kernel
theorem dX7_isLane_12 : decode cX7_isLane 12 = .ok (.if_icmp .ge 7, 3) := by decide +kernel
theorem dX7_isLane_15 : decode cX7_isLane 15 = .ok (.iconst 1, 1) := by decide +kernel
theorem dX7_isLane_16 : decode cX7_isLane 16 = .ok (.goto 4, 3) := by decide +kernel
theorem dX7_isLane_19 : decode cX7_isLane 19 = .ok (.iconst 0, 1) := by decide +kernel
theorem dX7_isLane_20 : decode cX7_isLane 20 = .ok (.ireturn, 1) := by decide +kernel
theorem dX7_isLetter_0 : decode cX7_isLetter 0 = .ok (.aload_n 0, 1) := by decide +kernel
theorem dX7_isLetter_1 : decode cX7_isLetter 1 = .ok (.getfield 26, 3) := by decide +kernel
theorem dX7_isLetter_4 : decode cX7_isLetter 4 = .ok (.invokevirtual 155, 3) := by decide +kernel
theorem dX7_isLetter_7 : decode cX7_isLetter 7 = .ok (.ifCond .eq 16, 3) := by decide +kernel
theorem dX7_isLetter_10 : decode cX7_isLetter 10 = .ok (.iload_n 1, 1) := by decide +kernel
theorem dX7_isLetter_11 : decode cX7_isLetter 11 = .ok (.iconst 0, 1) := by decide +kernel
theorem dX7_isLetter_12 : decode cX7_isLetter 12 = .ok (.iconst 3, 1) := by decide +kernel
theorem dX7_isLetter_13 : decode cX7_isLetter 13 = .ok (.invokestatic 71, 3) := by decide +kernel
theorem dX7_isLetter_16 : decode cX7_isLetter 16 = .ok (.ifCond .eq 7, 3) := by decide +kernel
theorem dX7_isLetter_19 : decode cX7_isLetter 19 = .ok (.iconst 1, 1) := by decide +kernel
theorem dX7_isLetter_20 : decode cX7_isLetter 20 = .ok (.goto 4, 3) := by decide +kernel
theorem dX7_isLetter_23 : decode cX7_isLetter 23 = .ok (.iconst 0, 1) := by decide +kernel
theorem dX7_isLetter_24 : decode cX7_isLetter 24 = .ok (.ireturn, 1) := by decide +kernel
theorem dX7_refusalOf_0 : decode cX7_refusalOf 0 = .ok (.iload_n 2, 1) := by decide +kernel
theorem dX7_refusalOf_1 : decode cX7_refusalOf 1 = .ok (.ifCond .eq 11, 3) := by decide +kernel
theorem dX7_refusalOf_4 : decode cX7_refusalOf 4 = .ok (.aload_n 0, 1) := by decide +kernel
theorem dX7_refusalOf_5 : decode cX7_refusalOf 5 = .ok (.iload_n 1, 1) := by decide +kernel
theorem dX7_refusalOf_6 : decode cX7_refusalOf 6 = .ok (.invokevirtual 175, 3) := by decide +kernel
theorem dX7_refusalOf_9 : decode cX7_refusalOf 9 = .ok (.ifCond .ne 6, 3) := by decide +kernel
theorem dX7_refusalOf_12 : decode cX7_refusalOf 12 = .ok (.ldc 75, 2) := by decide +kernel
theorem dX7_refusalOf_14 : decode cX7_refusalOf 14 = .ok (.ireturn, 1) := by decide +kernel
theorem dX7_refusalOf_15 : decode cX7_refusalOf 15 = .ok (.aload_n 0, 1) := by decide +kernel
theorem dX7_refusalOf_16 : decode cX7_refusalOf 16 = .ok (.getfield 26, 3) := by decide +kernel
theorem dX7_refusalOf_19 : decode cX7_refusalOf 19 = .ok (.iload_n 1, 1) := by decide +kernel
theorem dX7_refusalOf_20 : decode cX7_refusalOf 20 = .ok (.invokevirtual 217, 3) := by decide +kernel
theorem dX7_refusalOf_23 : decode cX7_refusalOf 23 = .ok (.ifCond .eq 7, 3) := by decide +kernel
theorem dX7_refusalOf_26 : decode cX7_refusalOf 26 = .ok (.iconst 0, 1) := by decide +kernel
theorem dX7_refusalOf_27 : decode cX7_refusalOf 27 = .ok (.goto 5, 3) := by decide +kernel
theorem dX7_refusalOf_30 : decode cX7_refusalOf 30 = .ok (.ldc 154, 2) := by decide +kernel
theorem dX7_refusalOf_32 : decode cX7_refusalOf 32 = .ok (.ireturn, 1) := by decide +kernel
theorem dX7_refusalOfTold_0 : decode cX7_refusalOfTold 0 = .ok (.aload_n 0, 1) := by decide +kernel
theorem dX7_refusalOfTold_1 : decode cX7_refusalOfTold 1 = .ok (.iload_n 1, 1) := by decide +kernel
theorem dX7_refusalOfTold_2 : decode cX7_refusalOfTold 2 = .ok (.iload_n 2, 1) := by decide +kernel
theorem dX7_refusalOfTold_3 : decode cX7_refusalOfTold 3 = .ok (.ifCond .eq 25, 3) := by decide +kernel
theorem dX7_refusalOfTold_6 : decode cX7_refusalOfTold 6 = .ok (.iload_n 3, 1) := by decide +kernel
theorem dX7_refusalOfTold_7 : decode cX7_refusalOfTold 7 = .ok (.invokestatic 67, 3) := by decide +kernel
theorem dX7_refusalOfTold_10 : decode cX7_refusalOfTold 10 = .ok (.ifCond .eq 18, 3) := by decide +kernel
theorem dX7_refusalOfTold_13 : decode cX7_refusalOfTold 13 = .ok (.iload 5, 2) := by decide +kernel
theorem dX7_refusalOfTold_15 : decode cX7_refusalOfTold 15 = .ok (.iconst 1, 1) := by decide +kernel
theorem dX7_refusalOfTold_16 : decode cX7_refusalOfTold 16 = .ok (.bipush 12, 2) := by decide +kernel
theorem dX7_refusalOfTold_18 : decode cX7_refusalOfTold 18 = .ok (.invokestatic 71, 3) := by decide +kernel
theorem dX7_refusalOfTold_21 : decode cX7_refusalOfTold 21 = .ok (.ifCond .eq 7, 3) := by decide +kernel
theorem dX7_refusalOfTold_24 : decode cX7_refusalOfTold 24 = .ok (.iconst 1, 1) := by decide +kernel
theorem dX7_refusalOfTold_25 : decode cX7_refusalOfTold 25 = .ok (.goto 4, 3) := by decide +kernel
theorem dX7_refusalOfTold_28 : decode cX7_refusalOfTold 28 = .ok (.iconst 0, 1) := by decide +kernel
theorem dX7_refusalOfTold_29 : decode cX7_refusalOfTold 29 = .ok (.invokevirtual 187, 3) := by decide +kernel
theorem dX7_refusalOfTold_32 : decode cX7_refusalOfTold 32 = .ok (.istore 6, 2) := by decide +kernel
theorem dX7_refusalOfTold_34 : decode cX7_refusalOfTold 34 = .ok (.iload 6, 2) := by decide +kernel
theorem dX7_refusalOfTold_36 : decode cX7_refusalOfTold 36 = .ok (.ifCond .eq 6, 3) := by decide +kernel
theorem dX7_refusalOfTold_39 : decode cX7_refusalOfTold 39 = .ok (.iload 6, 2) := by decide +kernel
theorem dX7_refusalOfTold_41 : decode cX7_refusalOfTold 41 = .ok (.ireturn, 1) := by decide +kernel
theorem dX7_refusalOfTold_42 : decode cX7_refusalOfTold 42 = .ok (.aload_n 0, 1) := by decide +kernel
theorem dX7_refusalOfTold_43 : decode cX7_refusalOfTold 43 = .ok (.getfield 10, 3) := by decide +kernel
theorem dX7_refusalOfTold_46 : decode cX7_refusalOfTold 46 = .ok (.iload_n 3, 1) := by decide +kernel
theorem dX7_refusalOfTold_47 : decode cX7_refusalOfTold 47 = .ok (.iload 4, 2) := by decide +kernel
theorem dX7_refusalOfTold_49 : decode cX7_refusalOfTold 49 = .ok (.iload 5, 2) := by decide +kernel
theorem dX7_refusalOfTold_51 : decode cX7_refusalOfTold 51 = .ok (.invokevirtual 87, 3) := by decide +kernel
theorem dX7_refusalOfTold_54 : decode cX7_refusalOfTold 54 = .ok (.istore 7, 2) := by decide +kernel
theorem dX7_refusalOfTold_56 : decode cX7_refusalOfTold 56 = .ok (.iload 7, 2) := by decide +kernel
theorem dX7_refusalOfTold_58 : decode cX7_refusalOfTold 58 = .ok (.ifCond .eq 10, 3) := by decide +kernel
theorem dX7_refusalOfTold_61 : decode cX7_refusalOfTold 61 = .ok (.aload_n 0, 1) := by decide +kernel
theorem dX7_refusalOfTold_62 : decode cX7_refusalOfTold 62 = .ok (.iload 7, 2) := by decide +kernel
theorem dX7_refusalOfTold_64 : decode cX7_refusalOfTold 64 = .ok (.invokevirtual 76, 3) := by decide +kernel
theorem dX7_refusalOfTold_67 : decode cX7_refusalOfTold 67 = .ok (.ireturn, 1) := by decide +kernel
theorem dX7_refusalOfTold_68 : decode cX7_refusalOfTold 68 = .ok (.aload_n 0, 1) := by decide +kernel
theorem dX7_refusalOfTold_69 : decode cX7_refusalOfTold 69 = .ok (.getfield 52, 3) := by decide +kernel
theorem dX7_refusalOfTold_72 : decode cX7_refusalOfTold 72 = .ok (.aload_n 0, 1) := by decide +kernel
theorem dX7_refusalOfTold_73 : decode cX7_refusalOfTold 73 = .ok (.getfield 10, 3) := by decide +kernel
theorem dX7_refusalOfTold_76 : decode cX7_refusalOfTold 76 = .ok (.iload_n 3, 1) := by decide +kernel
theorem dX7_refusalOfTold_77 : decode cX7_refusalOfTold 77 = .ok (.iload 4, 2) := by decide +kernel
theorem dX7_refusalOfTold_79 : decode cX7_refusalOfTold 79 = .ok (.iload 5, 2) := by decide +kernel
theorem dX7_refusalOfTold_81 : decode cX7_refusalOfTold 81 = .ok (.invokevirtual 313, 3) := by decide +kernel
theorem dX7_refusalOfTold_84 : decode cX7_refusalOfTold 84 = .ok (.iconst 0, 1) := by decide +kernel
theorem dX7_refusalOfTold_85 : decode cX7_refusalOfTold 85 = .ok (.ireturn, 1) := by decide +kernel
theorem dX7_found_0 : decode cX7_found 0 = .ok (.aload_n 0, 1) := by decide +kernel
theorem dX7_found_1 : decode cX7_found 1 = .ok (.iload_n 1, 1) := by decide +kernel
theorem dX7_found_2 : decode cX7_found 2 = .ok (.putfield 310, 3) := by decide +kernel
theorem dX7_found_5 : decode cX7_found 5 = .ok (.ldc_w 317, 3) := by decide +kernel
theorem dX7_found_8 : decode cX7_found 8 = .ok (.iload_n 1, 1) := by decide +kernel
theorem dX7_found_9 : decode cX7_found 9 = .ok (.isub, 1) := by decide +kernel
theorem dX7_found_10 : decode cX7_found 10 = .ok (.ireturn, 1) := by decide +kernel
theorem dX7_unfound_0 : decode cX7_unfound 0 = .ok (.aload_n 0, 1) := by decide +kernel
theorem dX7_unfound_1 : decode cX7_unfound 1 = .ok (.iconst 0, 1) := by decide +kernel
theorem dX7_unfound_2 : decode cX7_unfound 2 = .ok (.putfield 310, 3) := by decide +kernel
theorem dX7_unfound_5 : decode cX7_unfound 5 = .ok (.iload_n 1, 1) := by decide +kernel
theorem dX7_unfound_6 : decode cX7_unfound 6 = .ok (.ireturn, 1) := by decide +kernel
theorem dJ6_bitCount_0f7a4_0 : decode cJ6_bitCount_0f7a4 0 = .ok (.iload_n 0, 1) := by decide +kernel
theorem dJ6_bitCount_0f7a4_1 : decode cJ6_bitCount_0f7a4 1 = .ok (.iload_n 0, 1) := by decide +kernel
theorem dJ6_bitCount_0f7a4_2 : decode cJ6_bitCount_0f7a4 2 = .ok (.iconst 1, 1) := by decide +kernel
theorem dJ6_bitCount_0f7a4_3 : decode cJ6_bitCount_0f7a4 3 = .ok (.iushr, 1) := by decide +kernel
theorem dJ6_bitCount_0f7a4_4 : decode cJ6_bitCount_0f7a4 4 = .ok (.ldc_w 265, 3) := by decide +kernel
theorem dJ6_bitCount_0f7a4_7 : decode cJ6_bitCount_0f7a4 7 = .ok (.iand, 1) := by decide +kernel
theorem dJ6_bitCount_0f7a4_8 : decode cJ6_bitCount_0f7a4 8 = .ok (.isub, 1) := by decide +kernel
theorem dJ6_bitCount_0f7a4_9 : decode cJ6_bitCount_0f7a4 9 = .ok (.istore_n 0, 1) := by decide +kernel
theorem dJ6_bitCount_0f7a4_10 : decode cJ6_bitCount_0f7a4 10 = .ok (.iload_n 0, 1) := by decide +kernel
theorem dJ6_bitCount_0f7a4_11 : decode cJ6_bitCount_0f7a4 11 = .ok (.ldc_w 266, 3) := by decide +kernel
theorem dJ6_bitCount_0f7a4_14 : decode cJ6_bitCount_0f7a4 14 = .ok (.iand, 1) := by decide +kernel
theorem dJ6_bitCount_0f7a4_15 : decode cJ6_bitCount_0f7a4 15 = .ok (.iload_n 0, 1) := by decide +kernel
theorem dJ6_bitCount_0f7a4_16 : decode cJ6_bitCount_0f7a4 16 = .ok (.iconst 2, 1) := by decide +kernel
theorem dJ6_bitCount_0f7a4_17 : decode cJ6_bitCount_0f7a4 17 = .ok (.iushr, 1) := by decide +kernel
theorem dJ6_bitCount_0f7a4_18 : decode cJ6_bitCount_0f7a4 18 = .ok (.ldc_w 266, 3) := by decide +kernel
theorem dJ6_bitCount_0f7a4_21 : decode cJ6_bitCount_0f7a4 21 = .ok (.iand, 1) := by decide +kernel
theorem dJ6_bitCount_0f7a4_22 : decode cJ6_bitCount_0f7a4 22 = .ok (.iadd, 1) := by decide +kernel
theorem dJ6_bitCount_0f7a4_23 : decode cJ6_bitCount_0f7a4 23 = .ok (.istore_n 0, 1) := by decide +kernel
theorem dJ6_bitCount_0f7a4_24 : decode cJ6_bitCount_0f7a4 24 = .ok (.iload_n 0, 1) := by decide +kernel
theorem dJ6_bitCount_0f7a4_25 : decode cJ6_bitCount_0f7a4 25 = .ok (.iload_n 0, 1) := by decide +kernel
theorem dJ6_bitCount_0f7a4_26 : decode cJ6_bitCount_0f7a4 26 = .ok (.iconst 4, 1) := by decide +kernel
theorem dJ6_bitCount_0f7a4_27 : decode cJ6_bitCount_0f7a4 27 = .ok (.iushr, 1) := by decide +kernel
theorem dJ6_bitCount_0f7a4_28 : decode cJ6_bitCount_0f7a4 28 = .ok (.iadd, 1) := by decide +kernel
theorem dJ6_bitCount_0f7a4_29 : decode cJ6_bitCount_0f7a4 29 = .ok (.ldc_w 267, 3) := by decide +kernel
theorem dJ6_bitCount_0f7a4_32 : decode cJ6_bitCount_0f7a4 32 = .ok (.iand, 1) := by decide +kernel
theorem dJ6_bitCount_0f7a4_33 : decode cJ6_bitCount_0f7a4 33 = .ok (.istore_n 0, 1) := by decide +kernel
theorem dJ6_bitCount_0f7a4_34 : decode cJ6_bitCount_0f7a4 34 = .ok (.iload_n 0, 1) := by decide +kernel
theorem dJ6_bitCount_0f7a4_35 : decode cJ6_bitCount_0f7a4 35 = .ok (.iload_n 0, 1) := by decide +kernel
theorem dJ6_bitCount_0f7a4_36 : decode cJ6_bitCount_0f7a4 36 = .ok (.bipush 8, 2) := by decide +kernel
theorem dJ6_bitCount_0f7a4_38 : decode cJ6_bitCount_0f7a4 38 = .ok (.iushr, 1) := by decide +kernel
theorem dJ6_bitCount_0f7a4_39 : decode cJ6_bitCount_0f7a4 39 = .ok (.iadd, 1) := by decide +kernel
theorem dJ6_bitCount_0f7a4_40 : decode cJ6_bitCount_0f7a4 40 = .ok (.istore_n 0, 1) := by decide +kernel
theorem dJ6_bitCount_0f7a4_41 : decode cJ6_bitCount_0f7a4 41 = .ok (.iload_n 0, 1) := by decide +kernel
theorem dJ6_bitCount_0f7a4_42 : decode cJ6_bitCount_0f7a4 42 = .ok (.iload_n 0, 1) := by decide +kernel
theorem dJ6_bitCount_0f7a4_43 : decode cJ6_bitCount_0f7a4 43 = .ok (.bipush 16, 2) := by decide +kernel
theorem dJ6_bitCount_0f7a4_45 : decode cJ6_bitCount_0f7a4 45 = .ok (.iushr, 1) := by decide +kernel
theorem dJ6_bitCount_0f7a4_46 : decode cJ6_bitCount_0f7a4 46 = .ok (.iadd, 1) := by decide +kernel
theorem dJ6_bitCount_0f7a4_47 : decode cJ6_bitCount_0f7a4 47 = .ok (.istore_n 0, 1) := by decide +kernel
theorem dJ6_bitCount_0f7a4_48 : decode cJ6_bitCount_0f7a4 48 = .ok (.iload_n 0, 1) := by decide +kernel
theorem dJ6_bitCount_0f7a4_49 : decode cJ6_bitCount_0f7a4 49 = .ok (.bipush 63, 2) := by decide +kernel
theorem dJ6_bitCount_0f7a4_51 : decode cJ6_bitCount_0f7a4 51 = .ok (.iand, 1) := by decide +kernel
theorem dJ6_bitCount_0f7a4_52 : decode cJ6_bitCount_0f7a4 52 = .ok (.ireturn, 1) := by decide +kernel
theorem dJ9_abs_0f7a4_0 : decode cJ9_abs_0f7a4 0 = .ok (.iload_n 0, 1) := by decide +kernel
theorem dJ9_abs_0f7a4_1 : decode cJ9_abs_0f7a4 1 = .ok (.ifCond .ge 8, 3) := by decide +kernel
theorem dJ9_abs_0f7a4_4 : decode cJ9_abs_0f7a4 4 = .ok (.iload_n 0, 1) := by decide +kernel
theorem dJ9_abs_0f7a4_5 : decode cJ9_abs_0f7a4 5 = .ok (.ineg, 1) := by decide +kernel
theorem dJ9_abs_0f7a4_6 : decode cJ9_abs_0f7a4 6 = .ok (.goto 4, 3) := by decide +kernel
theorem dJ9_abs_0f7a4_9 : decode cJ9_abs_0f7a4 9 = .ok (.iload_n 0, 1) := by decide +kernel
theorem dJ9_abs_0f7a4_10 : decode cJ9_abs_0f7a4 10 = .ok (.ireturn, 1) := by decide +kernel
theorem dJ9_max_7cf53_0 : decode cJ9_max_7cf53 0 = .ok (.iload_n 0, 1) := by decide +kernel
theorem dJ9_max_7cf53_1 : decode cJ9_max_7cf53 1 = .ok (.iload_n 1, 1) := by decide +kernel
theorem dJ9_max_7cf53_2 : decode cJ9_max_7cf53 2 = .ok (.if_icmp .lt 7, 3) := by decide +kernel
theorem dJ9_max_7cf53_5 : decode cJ9_max_7cf53 5 = .ok (.iload_n 0, 1) := by decide +kernel
theorem dJ9_max_7cf53_6 : decode cJ9_max_7cf53 6 = .ok (.goto 4, 3) := by decide +kernel
theorem dJ9_max_7cf53_9 : decode cJ9_max_7cf53 9 = .ok (.iload_n 1, 1) := by decide +kernel
theorem dJ9_max_7cf53_10 : decode cJ9_max_7cf53 10 = .ok (.ireturn, 1) := by decide +kernel
theorem dJ9_max_f86c9_0 : decode cJ9_max_f86c9 0 = .ok (.lload_n 0, 1) := by decide +kernel
theorem dJ9_max_f86c9_1 : decode cJ9_max_f86c9 1 = .ok (.lload_n 2, 1) := by decide +kernel
theorem dJ9_max_f86c9_2 : decode cJ9_max_f86c9 2 = .ok (.lcmp, 1) := by decide +kernel
theorem dJ9_max_f86c9_3 : decode cJ9_max_f86c9 3 = .ok (.ifCond .lt 7, 3) := by decide +kernel
theorem dJ9_max_f86c9_6 : decode cJ9_max_f86c9 6 = .ok (.lload_n 0, 1) := by decide +kernel
theorem dJ9_max_f86c9_7 : decode cJ9_max_f86c9 7 = .ok (.goto 4, 3) := by decide +kernel
theorem dJ9_max_f86c9_10 : decode cJ9_max_f86c9 10 = .ok (.lload_n 2, 1) := by decide +kernel
theorem dJ9_max_f86c9_11 : decode cJ9_max_f86c9 11 = .ok (.lreturn, 1) := by decide +kernel
theorem dJ9_min_7cf53_0 : decode cJ9_min_7cf53 0 = .ok (.iload_n 0, 1) := by decide +kernel
theorem dJ9_min_7cf53_1 : decode cJ9_min_7cf53 1 = .ok (.iload_n 1, 1) := by decide +kernel
theorem dJ9_min_7cf53_2 : decode cJ9_min_7cf53 2 = .ok (.if_icmp .gt 7, 3) := by decide +kernel
theorem dJ9_min_7cf53_5 : decode cJ9_min_7cf53 5 = .ok (.iload_n 0, 1) := by decide +kernel
theorem dJ9_min_7cf53_6 : decode cJ9_min_7cf53 6 = .ok (.goto 4, 3) := by decide +kernel
theorem dJ9_min_7cf53_9 : decode cJ9_min_7cf53 9 = .ok (.iload_n 1, 1) := by decide +kernel
theorem dJ9_min_7cf53_10 : decode cJ9_min_7cf53 10 = .ok (.ireturn, 1) := by decide +kernel
end
section
theorem dX8_init_0 : decode cX8_init 0 = .ok (.aload_n 0, 1) := by decide +kernel
theorem dX8_init_1 : decode cX8_init 1 = .ok (.invokespecial 1, 3) := by decide +kernel
theorem dX8_init_4 : decode cX8_init 4 = .ok (.aload_n 0, 1) := by decide +kernel
theorem dX8_init_5 : decode cX8_init 5 = .ok (.bipush 8, 2) := by decide +kernel
theorem dX8_init_7 : decode cX8_init 7 = .ok (.newarray .int, 2) := by decide +kernel
theorem dX8_init_9 : decode cX8_init 9 = .ok (.dup, 1) := by decide +kernel
theorem dX8_init_10 : decode cX8_init 10 = .ok (.iconst 0, 1) := by decide +kernel
theorem dX8_init_11 : decode cX8_init 11 = .ok (.iconst (-1), 1) := by decide +kernel
theorem dX8_init_12 : decode cX8_init 12 = .ok (.iastore, 1) := by decide +kernel
theorem dX8_init_13 : decode cX8_init 13 = .ok (.dup, 1) := by decide +kernel
theorem dX8_init_14 : decode cX8_init 14 = .ok (.iconst 1, 1) := by decide +kernel
theorem dX8_init_15 : decode cX8_init 15 = .ok (.iconst (-1), 1) := by decide +kernel
theorem dX8_init_16 : decode cX8_init 16 = .ok (.iastore, 1) := by decide +kernel
theorem dX8_init_17 : decode cX8_init 17 = .ok (.dup, 1) := by decide +kernel
theorem dX8_init_18 : decode cX8_init 18 = .ok (.iconst 2, 1) := by decide +kernel
theorem dX8_init_19 : decode cX8_init 19 = .ok (.iconst (-1), 1) := by decide +kernel
theorem dX8_init_20 : decode cX8_init 20 = .ok (.iastore, 1) := by decide +kernel
theorem dX8_init_21 : decode cX8_init 21 = .ok (.dup, 1) := by decide +kernel
theorem dX8_init_22 : decode cX8_init 22 = .ok (.iconst 3, 1) := by decide +kernel
theorem dX8_init_23 : decode cX8_init 23 = .ok (.iconst (-1), 1) := by decide +kernel
theorem dX8_init_24 : decode cX8_init 24 = .ok (.iastore, 1) := by decide +kernel
theorem dX8_init_25 : decode cX8_init 25 = .ok (.dup, 1) := by decide +kernel
theorem dX8_init_26 : decode cX8_init 26 = .ok (.iconst 4, 1) := by decide +kernel
theorem dX8_init_27 : decode cX8_init 27 = .ok (.iconst (-1), 1) := by decide +kernel
theorem dX8_init_28 : decode cX8_init 28 = .ok (.iastore, 1) := by decide +kernel
theorem dX8_init_29 : decode cX8_init 29 = .ok (.dup, 1) := by decide +kernel
theorem dX8_init_30 : decode cX8_init 30 = .ok (.iconst 5, 1) := by decide +kernel
theorem dX8_init_31 : decode cX8_init 31 = .ok (.iconst (-1), 1) := by decide +kernel
theorem dX8_init_32 : decode cX8_init 32 = .ok (.iastore, 1) := by decide +kernel
theorem dX8_init_33 : decode cX8_init 33 = .ok (.dup, 1) := by decide +kernel
theorem dX8_init_34 : decode cX8_init 34 = .ok (.bipush 6, 2) := by decide +kernel
theorem dX8_init_36 : decode cX8_init 36 = .ok (.iconst (-1), 1) := by decide +kernel
theorem dX8_init_37 : decode cX8_init 37 = .ok (.iastore, 1) := by decide +kernel
theorem dX8_init_38 : decode cX8_init 38 = .ok (.dup, 1) := by decide +kernel
theorem dX8_init_39 : decode cX8_init 39 = .ok (.bipush 7, 2) := by decide +kernel
theorem dX8_init_41 : decode cX8_init 41 = .ok (.iconst (-1), 1) := by decide +kernel
theorem dX8_init_42 : decode cX8_init 42 = .ok (.iastore, 1) := by decide +kernel
theorem dX8_init_43 : decode cX8_init 43 = .ok (.putfield 7, 3) := by decide +kernel
theorem dX8_init_46 : decode cX8_init 46 = .ok (.aload_n 0, 1) := by decide +kernel
theorem dX8_init_47 : decode cX8_init 47 = .ok (.bipush 8, 2) := by decide +kernel
theorem dX8_init_49 : decode cX8_init 49 = .ok (.newarray .int, 2) := by decide +kernel
theorem dX8_init_51 : decode cX8_init 51 = .ok (.putfield 13, 3) := by decide +kernel
theorem dX8_init_54 : decode cX8_init 54 = .ok (.aload_n 0, 1) := by decide +kernel
theorem dX8_init_55 : decode cX8_init 55 = .ok (.sipush 320, 3) := by decide +kernel
theorem dX8_init_58 : decode cX8_init 58 = .ok (.newarray .int, 2) := by decide +kernel
theorem dX8_init_60 : decode cX8_init 60 = .ok (.putfield 16, 3) := by decide +kernel
theorem dX8_init_63 : decode cX8_init 63 = .ok (.aload_n 0, 1) := by decide +kernel
theorem dX8_init_64 : decode cX8_init 64 = .ok (.bipush 41, 2) := by decide +kernel
theorem dX8_init_66 : decode cX8_init 66 = .ok (.newarray .int, 2) := by decide +kernel
theorem dX8_init_68 : decode cX8_init 68 = .ok (.putfield 19, 3) := by decide +kernel
theorem dX8_init_71 : decode cX8_init 71 = .ok (.aload_n 0, 1) := by decide +kernel
theorem dX8_init_72 : decode cX8_init 72 = .ok (.bipush 41, 2) := by decide +kernel
theorem dX8_init_74 : decode cX8_init 74 = .ok (.newarray .int, 2) := by decide +kernel
theorem dX8_init_76 : decode cX8_init 76 = .ok (.putfield 22, 3) := by decide +kernel
theorem dX8_init_79 : decode cX8_init 79 = .ok (.aload_n 0, 1) := by decide +kernel
theorem dX8_init_80 : decode cX8_init 80 = .ok (.bipush 41, 2) := by decide +kernel
theorem dX8_init_82 : decode cX8_init 82 = .ok (.newarray .int, 2) := by decide +kernel
theorem dX8_init_84 : decode cX8_init 84 = .ok (.putfield 25, 3) := by decide +kernel
theorem dX8_init_87 : decode cX8_init 87 = .ok (.aload_n 0, 1) := by decide +kernel
theorem dX8_init_88 : decode cX8_init 88 = .ok (.sipush 984, 3) := by decide +kernel
theorem dX8_init_91 : decode cX8_init 91 = .ok (.newarray .int, 2) := by decide +kernel
theorem dX8_init_93 : decode cX8_init 93 = .ok (.putfield 28, 3) := by decide +kernel
theorem dX8_init_96 : decode cX8_init 96 = .ok (.aload_n 0, 1) := by decide +kernel
theorem dX8_init_97 : decode cX8_init 97 = .ok (.bipush 120, 2) := by decide +kernel
theorem dX8_init_99 : decode cX8_init 99 = .ok (.newarray .int, 2) := by decide +kernel
theorem dX8_init_101 : decode cX8_init 101 = .ok (.putfield 31, 3) := by decide +kernel
theorem dX8_init_104 : decode cX8_init 104 = .ok (.aload_n 0, 1) := by decide +kernel
theorem dX8_init_105 : decode cX8_init 105 = .ok (.iconst 4, 1) := by decide +kernel
theorem dX8_init_106 : decode cX8_init 106 = .ok (.newarray .int, 2) := by decide +kernel
theorem dX8_init_108 : decode cX8_init 108 = .ok (.putfield 34, 3) := by decide +kernel
theorem dX8_init_111 : decode cX8_init 111 = .ok (.aload_n 0, 1) := by decide +kernel
theorem dX8_init_112 : decode cX8_init 112 = .ok (.bipush 6, 2) := by decide +kernel
theorem dX8_init_114 : decode cX8_init 114 = .ok (.newarray .int, 2) := by decide +kernel
theorem dX8_init_116 : decode cX8_init 116 = .ok (.putfield 37, 3) := by decide +kernel
theorem dX8_init_119 : decode cX8_init 119 = .ok (.aload_n 0, 1) := by decide +kernel
theorem dX8_init_120 : decode cX8_init 120 = .ok (.bipush 6, 2) := by decide +kernel
theorem dX8_init_122 : decode cX8_init 122 = .ok (.newarray .int, 2) := by decide +kernel
theorem dX8_init_124 : decode cX8_init 124 = .ok (.putfield 40, 3) := by decide +kernel
theorem dX8_init_127 : decode cX8_init 127 = .ok (.aload_n 0, 1) := by decide +kernel
theorem dX8_init_128 : decode cX8_init 128 = .ok (.iconst 2, 1) := by decide +kernel
theorem dX8_init_129 : decode cX8_init 129 = .ok (.newarray .boolean, 2) := by decide +kernel
theorem dX8_init_131 : decode cX8_init 131 = .ok (.putfield 43, 3) := by decide +kernel
theorem dX8_init_134 : decode cX8_init 134 = .ok (.aload_n 0, 1) := by decide +kernel
theorem dX8_init_135 : decode cX8_init 135 = .ok (.bipush 82, 2) := by decide +kernel
theorem dX8_init_137 : decode cX8_init 137 = .ok (.newarray .int, 2) := by decide +kernel
theorem dX8_init_139 : decode cX8_init 139 = .ok (.putfield 47, 3) := by decide +kernel
theorem dX8_init_142 : decode cX8_init 142 = .ok (.aload_n 0, 1) := by decide +kernel
theorem dX8_init_143 : decode cX8_init 143 = .ok (.bipush 16, 2) := by decide +kernel
theorem dX8_init_145 : decode cX8_init 145 = .ok (.newarray .int, 2) := by decide +kernel
theorem dX8_init_147 : decode cX8_init 147 = .ok (.putfield 50, 3) := by decide +kernel
theorem dX8_init_150 : decode cX8_init 150 = .ok (.return_, 1) := by decide +kernel
theorem dX8_in_0 : decode cX8_in 0 = .ok (.lload_n 0, 1) := by decide +kernel
theorem dX8_in_1 : decode cX8_in 1 = .ok (.lload_n 2, 1) := by decide +kernel
theorem dX8_in_2 : decode cX8_in 2 = .ok (.lcmp, 1) := by decide +kernel
theorem dX8_in_3 : decode cX8_in 3 = .ok (.ifCond .lt 14, 3) := by decide +kernel
theorem dX8_in_6 : decode cX8_in 6 = .ok (.lload_n 0, 1) := by decide +kernel
theorem dX8_in_7 : decode cX8_in 7 = .ok (.lload 4, 2) := by decide +kernel
theorem dX8_in_9 : decode cX8_in 9 = .ok (.lcmp, 1) := by decide +kernel
theorem dX8_in_10 : decode cX8_in 10 = .ok (.ifCond .gt 7, 3) := by decide +kernel
theorem dX8_in_13 : decode cX8_in 13 = .ok (.iconst 1, 1) := by decide +kernel
theorem dX8_in_14 : decode cX8_in 14 = .ok (.goto 4, 3) := by decide +kernel
theorem dX8_in_17 : decode cX8_in 17 = .ok (.iconst 0, 1) := by decide +kernel
theorem dX8_in_18 : decode cX8_in 18 = .ok (.ireturn, 1) := by decide +kernel
theorem dX8_finding_0 : decode cX8_finding 0 = .ok (.aload_n 0, 1) := by decide +kernel
theorem dX8_finding_1 : decode cX8_finding 1 = .ok (.iload_n 1, 1) := by decide +kernel
theorem dX8_finding_2 : decode cX8_finding 2 = .ok (.putfield 57, 3) := by decide +kernel
theorem dX8_finding_5 : decode cX8_finding 5 = .ok (.ldc 60, 2) := by decide +kernel
theorem dX8_finding_7 : decode cX8_finding 7 = .ok (.iload_n 1, 1) := by decide +kernel
theorem dX8_finding_8 : decode cX8_finding 8 = .ok (.isub, 1) := by decide +kernel
theorem dX8_finding_9 : decode cX8_finding 9 = .ok (.ireturn, 1) := by decide +kernel
theorem dX8_isRow_0 : decode cX8_isRow 0 = .ok (.iload_n 0, 1) := by decide +kernel
theorem dX8_isRow_1 : decode cX8_isRow 1 = .ok (.i2l, 1) := by decide +kernel
theorem dX8_isRow_2 : decode cX8_isRow 2 = .ok (.lconst 0, 1) := by decide +kernel
theorem dX8_isRow_3 : decode cX8_isRow 3 = .ok (.ldc2_w 61, 3) := by decide +kernel
theorem dX8_isRow_6 : decode cX8_isRow 6 = .ok (.invokestatic 63, 3) := by decide +kernel
theorem dX8_isRow_9 : decode cX8_isRow 9 = .ok (.ireturn, 1) := by decide +kernel
theorem dX8_row_0 : decode cX8_row 0 = .ok (.aload_n 0, 1) := by decide +kernel
theorem dX8_row_1 : decode cX8_row 1 = .ok (.iconst 0, 1) := by decide +kernel
theorem dX8_row_2 : decode cX8_row 2 = .ok (.putfield 53, 3) := by decide +kernel
theorem dX8_row_5 : decode cX8_row 5 = .ok (.iload_n 1, 1) := by decide +kernel
theorem dX8_row_6 : decode cX8_row 6 = .ok (.invokestatic 67, 3) := by decide +kernel
theorem dX8_row_9 : decode cX8_row 9 = .ok (.ifCond .eq 21, 3) := by decide +kernel
theorem dX8_row_12 : decode cX8_row 12 = .ok (.iload_n 2, 1) := by decide +kernel
theorem dX8_row_13 : decode cX8_row 13 = .ok (.i2l, 1) := by decide +kernel
theorem dX8_row_14 : decode cX8_row 14 = .ok (.lconst 0, 1) := by decide +kernel
theorem dX8_row_15 : decode cX8_row 15 = .ok (.ldc2_w 71, 3) := by decide +kernel
theorem dX8_row_18 : decode cX8_row 18 = .ok (.invokestatic 63, 3) := by decide +kernel
theorem dX8_row_21 : decode cX8_row 21 = .ok (.ifCond .eq 9, 3) := by decide +kernel
theorem dX8_row_24 : decode cX8_row 24 = .ok (.iload_n 3, 1) := by decide +kernel
theorem dX8_row_25 : decode cX8_row 25 = .ok (.bipush 40, 2) := by decide +kernel
theorem dX8_row_27 : decode cX8_row 27 = .ok (.if_icmp .le 6, 3) := by decide +kernel
theorem dX8_row_30 : decode cX8_row 30 = .ok (.ldc 73, 2) := by decide +kernel
theorem dX8_row_32 : decode cX8_row 32 = .ok (.ireturn, 1) := by decide +kernel
theorem dX8_row_33 : decode cX8_row 33 = .ok (.aload_n 0, 1) := by decide +kernel
theorem dX8_row_34 : decode cX8_row 34 = .ok (.iconst 0, 1) := by decide +kernel
theorem dX8_row_35 : decode cX8_row 35 = .ok (.putfield 57, 3) := by decide +kernel
theorem dX8_row_38 : decode cX8_row 38 = .ok (.iload_n 3, 1) := by decide +kernel
theorem dX8_row_39 : decode cX8_row 39 = .ok (.ifCond .ge 9, 3) := by decide +kernel
theorem dX8_row_42 : decode cX8_row 42 = .ok (.aload_n 0, 1) := by decide +kernel
theorem dX8_row_43 : decode cX8_row 43 = .ok (.iconst 4, 1) := by decide +kernel
theorem dX8_row_44 : decode cX8_row 44 = .ok (.invokevirtual 74, 3) := by decide +kernel
theorem dX8_row_47 : decode cX8_row 47 = .ok (.ireturn, 1) := by decide +kernel
theorem dX8_row_48 : decode cX8_row 48 = .ok (.aload_n 0, 1) := by decide +kernel
theorem dX8_row_49 : decode cX8_row 49 = .ok (.getfield 7, 3) := by decide +kernel
theorem dX8_row_52 : decode cX8_row 52 = .ok (.iload_n 1, 1) := by decide +kernel
theorem dX8_row_53 : decode cX8_row 53 = .ok (.iload_n 2, 1) := by decide +kernel
theorem dX8_row_54 : decode cX8_row 54 = .ok (.iastore, 1) := by decide +kernel
theorem dX8_row_55 : decode cX8_row 55 = .ok (.aload_n 0, 1) := by decide +kernel
theorem dX8_row_56 : decode cX8_row 56 = .ok (.getfield 13, 3) := by decide +kernel
theorem dX8_row_59 : decode cX8_row 59 = .ok (.iload_n 1, 1) := by decide +kernel
theorem dX8_row_60 : decode cX8_row 60 = .ok (.iload_n 3, 1) := by decide +kernel
theorem dX8_row_61 : decode cX8_row 61 = .ok (.iastore, 1) := by decide +kernel
theorem dX8_row_62 : decode cX8_row 62 = .ok (.iconst 0, 1) := by decide +kernel
theorem dX8_row_63 : decode cX8_row 63 = .ok (.istore 4, 2) := by decide +kernel
theorem dX8_row_65 : decode cX8_row 65 = .ok (.iload 4, 2) := by decide +kernel
theorem dX8_row_67 : decode cX8_row 67 = .ok (.bipush 40, 2) := by decide +kernel
theorem dX8_row_69 : decode cX8_row 69 = .ok (.if_icmp .ge 22, 3) := by decide +kernel
theorem dX8_row_72 : decode cX8_row 72 = .ok (.aload_n 0, 1) := by decide +kernel
theorem dX8_row_73 : decode cX8_row 73 = .ok (.getfield 16, 3) := by decide +kernel
theorem dX8_row_76 : decode cX8_row 76 = .ok (.bipush 40, 2) := by decide +kernel
theorem dX8_row_78 : decode cX8_row 78 = .ok (.iload_n 1, 1) := by decide +kernel
theorem dX8_row_79 : decode cX8_row 79 = .ok (.imul, 1) := by decide +kernel
theorem dX8_row_80 : decode cX8_row 80 = .ok (.iload 4, 2) := by decide +kernel
theorem dX8_row_82 : decode cX8_row 82 = .ok (.iadd, 1) := by decide +kernel
theorem dX8_row_83 : decode cX8_row 83 = .ok (.iconst 0, 1) := by decide +kernel
theorem dX8_row_84 : decode cX8_row 84 = .ok (.iastore, 1) := by decide +kernel
theorem dX8_row_85 : decode cX8_row 85 = .ok (.iinc 4 1, 3) := by decide +kernel
theorem dX8_row_88 : decode cX8_row 88 = .ok (.goto (-23), 3) := by decide +kernel
theorem dX8_row_91 : decode cX8_row 91 = .ok (.iload_n 3, 1) := by decide +kernel
theorem dX8_row_92 : decode cX8_row 92 = .ok (.ireturn, 1) := by decide +kernel
theorem dX8_set_0 : decode cX8_set 0 = .ok (.aload_n 0, 1) := by decide +kernel
theorem dX8_set_1 : decode cX8_set 1 = .ok (.iconst 0, 1) := by decide +kernel
theorem dX8_set_2 : decode cX8_set 2 = .ok (.putfield 53, 3) := by decide +kernel
theorem dX8_set_5 : decode cX8_set 5 = .ok (.iload_n 1, 1) := by decide +kernel
theorem dX8_set_6 : decode cX8_set 6 = .ok (.invokestatic 67, 3) := by decide +kernel
theorem dX8_set_9 : decode cX8_set 9 = .ok (.ifCond .ne 6, 3) := by decide +kernel
theorem dX8_set_12 : decode cX8_set 12 = .ok (.ldc 73, 2) := by decide +kernel
theorem dX8_set_14 : decode cX8_set 14 = .ok (.ireturn, 1) := by decide +kernel
theorem dX8_set_15 : decode cX8_set 15 = .ok (.aload_n 0, 1) := by decide +kernel
theorem dX8_set_16 : decode cX8_set 16 = .ok (.iconst 0, 1) := by decide +kernel
theorem dX8_set_17 : decode cX8_set 17 = .ok (.putfield 57, 3) := by decide +kernel
theorem dX8_set_20 : decode cX8_set 20 = .ok (.aload_n 0, 1) := by decide +kernel
theorem dX8_set_21 : decode cX8_set 21 = .ok (.getfield 7, 3) := by decide +kernel
theorem dX8_set_24 : decode cX8_set 24 = .ok (.iload_n 1, 1) := by decide +kernel
theorem dX8_set_25 : decode cX8_set 25 = .ok (.iaload, 1) := by decide +kernel
theorem dX8_set_26 : decode cX8_set 26 = .ok (.ifCond .ge 9, 3) := by decide +kernel
theorem dX8_set_29 : decode cX8_set 29 = .ok (.aload_n 0, 1) := by decide +kernel
theorem dX8_set_30 : decode cX8_set 30 = .ok (.iconst 1, 1) := by decide +kernel
theorem dX8_set_31 : decode cX8_set 31 = .ok (.invokevirtual 74, 3) := by decide +kernel
theorem dX8_set_34 : decode cX8_set 34 = .ok (.ireturn, 1) := by decide +kernel
theorem dX8_set_35 : decode cX8_set 35 = .ok (.iload_n 2, 1) := by decide +kernel
theorem dX8_set_36 : decode cX8_set 36 = .ok (.i2l, 1) := by decide +kernel
theorem dX8_set_37 : decode cX8_set 37 = .ok (.lconst 0, 1) := by decide +kernel
theorem dX8_set_38 : decode cX8_set 38 = .ok (.aload_n 0, 1) := by decide +kernel
theorem dX8_set_39 : decode cX8_set 39 = .ok (.getfield 13, 3) := by decide +kernel
theorem dX8_set_42 : decode cX8_set 42 = .ok (.iload_n 1, 1) := by decide +kernel
theorem dX8_set_43 : decode cX8_set 43 = .ok (.iaload, 1) := by decide +kernel
theorem dX8_set_44 : decode cX8_set 44 = .ok (.iconst 1, 1) := by decide +kernel
theorem dX8_set_45 : decode cX8_set 45 = .ok (.isub, 1) := by decide +kernel
theorem dX8_set_46 : decode cX8_set 46 = .ok (.i2l, 1) := by decide +kernel
theorem dX8_set_47 : decode cX8_set 47 = .ok (.invokestatic 63, 3) := by decide +kernel
theorem dX8_set_50 : decode cX8_set 50 = .ok (.ifCond .ne 9, 3) := by decide +kernel
theorem dX8_set_53 : decode cX8_set 53 = .ok (.aload_n 0, 1) := by decide +kernel
theorem dX8_set_54 : decode cX8_set 54 = .ok (.iconst 2, 1) := by decide +kernel
theorem dX8_set_55 : decode cX8_set 55 = .ok (.invokevirtual 74, 3) := by decide +kernel
theorem dX8_set_58 : decode cX8_set 58 = .ok (.ireturn, 1) := by decide +kernel
theorem dX8_set_59 : decode cX8_set 59 = .ok (.aload_n 0, 1) := by decide +kernel
theorem dX8_set_60 : decode cX8_set 60 = .ok (.getfield 16, 3) := by decide +kernel
theorem dX8_set_63 : decode cX8_set 63 = .ok (.bipush 40, 2) := by decide +kernel
theorem dX8_set_65 : decode cX8_set 65 = .ok (.iload_n 1, 1) := by decide +kernel
theorem dX8_set_66 : decode cX8_set 66 = .ok (.imul, 1) := by decide +kernel
theorem dX8_set_67 : decode cX8_set 67 = .ok (.iload_n 2, 1) := by decide +kernel
theorem dX8_set_68 : decode cX8_set 68 = .ok (.iadd, 1) := by decide +kernel
theorem dX8_set_69 : decode cX8_set 69 = .ok (.aload_n 0, 1) := by decide +kernel
theorem dX8_set_70 : decode cX8_set 70 = .ok (.getfield 7, 3) := by decide +kernel
theorem dX8_set_73 : decode cX8_set 73 = .ok (.iload_n 1, 1) := by decide +kernel
theorem dX8_set_74 : decode cX8_set 74 = .ok (.iaload, 1) := by decide +kernel
theorem dX8_set_75 : decode cX8_set 75 = .ok (.ifCond .ne 8, 3) := by decide +kernel
theorem dX8_set_78 : decode cX8_set 78 = .ok (.iload_n 3, 1) := by decide +kernel
theorem dX8_set_79 : decode cX8_set 79 = .ok (.i2b, 1) := by decide +kernel
theorem dX8_set_80 : decode cX8_set 80 = .ok (.goto 19, 3) := by decide +kernel
theorem dX8_set_83 : decode cX8_set 83 = .ok (.aload_n 0, 1) := by decide +kernel
theorem dX8_set_84 : decode cX8_set 84 = .ok (.getfield 7, 3) := by decide +kernel
theorem dX8_set_87 : decode cX8_set 87 = .ok (.iload_n 1, 1) := by decide +kernel
theorem dX8_set_88 : decode cX8_set 88 = .ok (.iaload, 1) := by decide +kernel
theorem dX8_set_89 : decode cX8_set 89 = .ok (.iconst 1, 1) := by decide +kernel
theorem dX8_set_90 : decode cX8_set 90 = .ok (.if_icmp .ne 8, 3) := by decide +kernel
theorem dX8_set_93 : decode cX8_set 93 = .ok (.iload_n 3, 1) := by decide +kernel
theorem dX8_set_94 : decode cX8_set 94 = .ok (.i2s, 1) := by decide +kernel
theorem dX8_set_95 : decode cX8_set 95 = .ok (.goto 4, 3) := by decide +kernel
theorem dX8_set_98 : decode cX8_set 98 = .ok (.iload_n 3, 1) := by decide +kernel
theorem dX8_set_99 : decode cX8_set 99 = .ok (.iastore, 1) := by decide +kernel
theorem dX8_set_100 : decode cX8_set 100 = .ok (.aload_n 0, 1) := by decide +kernel
theorem dX8_set_101 : decode cX8_set 101 = .ok (.getfield 16, 3) := by decide +kernel
theorem dX8_set_104 : decode cX8_set 104 = .ok (.bipush 40, 2) := by decide +kernel
theorem dX8_set_106 : decode cX8_set 106 = .ok (.iload_n 1, 1) := by decide +kernel
theorem dX8_set_107 : decode cX8_set 107 = .ok (.imul, 1) := by decide +kernel
theorem dX8_set_108 : decode cX8_set 108 = .ok (.iload_n 2, 1) := by decide +kernel
theorem dX8_set_109 : decode cX8_set 109 = .ok (.iadd, 1) := by decide +kernel
theorem dX8_set_110 : decode cX8_set 110 = .ok (.iaload, 1) := by decide +kernel
theorem dX8_set_111 : decode cX8_set 111 = .ok (.ireturn, 1) := by decide +kernel
theorem dX8_copy_0 : decode cX8_copy 0 = .ok (.aload_n 0, 1) := by decide +kernel
theorem dX8_copy_1 : decode cX8_copy 1 = .ok (.iconst 0, 1) := by decide +kernel
theorem dX8_copy_2 : decode cX8_copy 2 = .ok (.putfield 53, 3) := by decide +kernel
theorem dX8_copy_5 : decode cX8_copy 5 = .ok (.iload_n 1, 1) := by decide +kernel
theorem dX8_copy_6 : decode cX8_copy 6 = .ok (.invokestatic 67, 3) := by decide +kernel
theorem dX8_copy_9 : decode cX8_copy 9 = .ok (.ifCond .eq 10, 3) := by decide +kernel
theorem dX8_copy_12 : decode cX8_copy 12 = .ok (.iload_n 3, 1) := by decide +kernel
theorem dX8_copy_13 : decode cX8_copy 13 = .ok (.invokestatic 67, 3) := by decide +kernel
theorem dX8_copy_16 : decode cX8_copy 16 = .ok (.ifCond .ne 6, 3) := by decide +kernel
theorem dX8_copy_19 : decode cX8_copy 19 = .ok (.ldc 73, 2) := by decide +kernel
theorem dX8_copy_21 : decode cX8_copy 21 = .ok (.ireturn, 1) := by decide +kernel
theorem dX8_copy_22 : decode cX8_copy 22 = .ok (.aload_n 0, 1) := by decide +kernel
theorem dX8_copy_23 : decode cX8_copy 23 = .ok (.iconst 0, 1) := by decide +kernel
theorem dX8_copy_24 : decode cX8_copy 24 = .ok (.putfield 57, 3) := by decide +kernel
theorem dX8_copy_27 : decode cX8_copy 27 = .ok (.aload_n 0, 1) := by decide +kernel
theorem dX8_copy_28 : decode cX8_copy 28 = .ok (.getfield 7, 3) := by decide +kernel
theorem dX8_copy_31 : decode cX8_copy 31 = .ok (.iload_n 1, 1) := by decide +kernel
theorem dX8_copy_32 : decode cX8_copy 32 = .ok (.iaload, 1) := by decide +kernel
theorem dX8_copy_33 : decode cX8_copy 33 = .ok (.ifCond .lt 12, 3) := by decide +kernel
theorem dX8_copy_36 : decode cX8_copy 36 = .ok (.aload_n 0, 1) := by decide +kernel
theorem dX8_copy_37 : decode cX8_copy 37 = .ok (.getfield 7, 3) := by decide +kernel
theorem dX8_copy_40 : decode cX8_copy 40 = .ok (.iload_n 3, 1) := by decide +kernel
theorem dX8_copy_41 : decode cX8_copy 41 = .ok (.iaload, 1) := by decide +kernel
theorem dX8_copy_42 : decode cX8_copy 42 = .ok (.ifCond .ge 9, 3) := by decide +kernel
theorem dX8_copy_45 : decode cX8_copy 45 = .ok (.aload_n 0, 1) := by decide +kernel
theorem dX8_copy_46 : decode cX8_copy 46 = .ok (.iconst 1, 1) := by decide +kernel
theorem dX8_copy_47 : decode cX8_copy 47 = .ok (.invokevirtual 74, 3) := by decide +kernel
theorem dX8_copy_50 : decode cX8_copy 50 = .ok (.ireturn, 1) := by decide +kernel
theorem dX8_copy_51 : decode cX8_copy 51 = .ok (.aload_n 0, 1) := by decide +kernel
theorem dX8_copy_52 : decode cX8_copy 52 = .ok (.getfield 7, 3) := by decide +kernel
theorem dX8_copy_55 : decode cX8_copy 55 = .ok (.iload_n 1, 1) := by decide +kernel
theorem dX8_copy_56 : decode cX8_copy 56 = .ok (.iaload, 1) := by decide +kernel
theorem dX8_copy_57 : decode cX8_copy 57 = .ok (.aload_n 0, 1) := by decide +kernel
theorem dX8_copy_58 : decode cX8_copy 58 = .ok (.getfield 7, 3) := by decide +kernel
theorem dX8_copy_61 : decode cX8_copy 61 = .ok (.iload_n 3, 1) := by decide +kernel
theorem dX8_copy_62 : decode cX8_copy 62 = .ok (.iaload, 1) := by decide +kernel
theorem dX8_copy_63 : decode cX8_copy 63 = .ok (.if_icmp .eq 9, 3) := by decide +kernel
theorem dX8_copy_66 : decode cX8_copy 66 = .ok (.aload_n 0, 1) := by decide +kernel
theorem dX8_copy_67 : decode cX8_copy 67 = .ok (.iconst 5, 1) := by decide +kernel
theorem dX8_copy_68 : decode cX8_copy 68 = .ok (.invokevirtual 74, 3) := by decide +kernel
theorem dX8_copy_71 : decode cX8_copy 71 = .ok (.ireturn, 1) := by decide +kernel
theorem dX8_copy_72 : decode cX8_copy 72 = .ok (.iload_n 2, 1) := by decide +kernel
theorem dX8_copy_73 : decode cX8_copy 73 = .ok (.ifCond .lt 48, 3) := by decide +kernel
theorem dX8_copy_76 : decode cX8_copy 76 = .ok (.iload 4, 2) := by decide +kernel
theorem dX8_copy_78 : decode cX8_copy 78 = .ok (.ifCond .lt 43, 3) := by decide +kernel
theorem dX8_copy_81 : decode cX8_copy 81 = .ok (.iload 5, 2) := by decide +kernel
theorem dX8_copy_83 : decode cX8_copy 83 = .ok (.ifCond .lt 38, 3) := by decide +kernel
theorem dX8_copy_86 : decode cX8_copy 86 = .ok (.iload_n 2, 1) := by decide +kernel
theorem dX8_copy_87 : decode cX8_copy 87 = .ok (.i2l, 1) := by decide +kernel
theorem dX8_copy_88 : decode cX8_copy 88 = .ok (.iload 5, 2) := by decide +kernel
theorem dX8_copy_90 : decode cX8_copy 90 = .ok (.i2l, 1) := by decide +kernel
theorem dX8_copy_91 : decode cX8_copy 91 = .ok (.ladd, 1) := by decide +kernel
theorem dX8_copy_92 : decode cX8_copy 92 = .ok (.aload_n 0, 1) := by decide +kernel
theorem dX8_copy_93 : decode cX8_copy 93 = .ok (.getfield 13, 3) := by decide +kernel
theorem dX8_copy_96 : decode cX8_copy 96 = .ok (.iload_n 1, 1) := by decide +kernel
theorem dX8_copy_97 : decode cX8_copy 97 = .ok (.iaload, 1) := by decide +kernel
theorem dX8_copy_98 : decode cX8_copy 98 = .ok (.i2l, 1) := by decide +kernel
theorem dX8_copy_99 : decode cX8_copy 99 = .ok (.lcmp, 1) := by decide +kernel
theorem dX8_copy_100 : decode cX8_copy 100 = .ok (.ifCond .gt 21, 3) := by decide +kernel
theorem dX8_copy_103 : decode cX8_copy 103 = .ok (.iload 4, 2) := by decide +kernel
theorem dX8_copy_105 : decode cX8_copy 105 = .ok (.i2l, 1) := by decide +kernel
theorem dX8_copy_106 : decode cX8_copy 106 = .ok (.iload 5, 2) := by decide +kernel
theorem dX8_copy_108 : decode cX8_copy 108 = .ok (.i2l, 1) := by decide +kernel
theorem dX8_copy_109 : decode cX8_copy 109 = .ok (.ladd, 1) := by decide +kernel
theorem dX8_copy_110 : decode cX8_copy 110 = .ok (.aload_n 0, 1) := by decide +kernel
theorem dX8_copy_111 : decode cX8_copy 111 = .ok (.getfield 13, 3) := by decide +kernel
theorem dX8_copy_114 : decode cX8_copy 114 = .ok (.iload_n 3, 1) := by decide +kernel
theorem dX8_copy_115 : decode cX8_copy 115 = .ok (.iaload, 1) := by decide +kernel
theorem dX8_copy_116 : decode cX8_copy 116 = .ok (.i2l, 1) := by decide +kernel
theorem dX8_copy_117 : decode cX8_copy 117 = .ok (.lcmp, 1) := by decide +kernel
theorem dX8_copy_118 : decode cX8_copy 118 = .ok (.ifCond .le 9, 3) := by decide +kernel
theorem dX8_copy_121 : decode cX8_copy 121 = .ok (.aload_n 0, 1) := by decide +kernel
theorem dX8_copy_122 : decode cX8_copy 122 = .ok (.iconst 2, 1) := by decide +kernel
theorem dX8_copy_123 : decode cX8_copy 123 = .ok (.invokevirtual 74, 3) := by decide +kernel
theorem dX8_copy_126 : decode cX8_copy 126 = .ok (.ireturn, 1) := by decide +kernel
theorem dX8_copy_127 : decode cX8_copy 127 = .ok (.iload_n 2, 1) := by decide +kernel
theorem dX8_copy_128 : decode cX8_copy 128 = .ok (.iload 4, 2) := by decide +kernel
theorem dX8_copy_130 : decode cX8_copy 130 = .ok (.if_icmp .lt 7, 3) := by decide +kernel
theorem dX8_copy_133 : decode cX8_copy 133 = .ok (.iconst 1, 1) := by decide +kernel
theorem dX8_copy_134 : decode cX8_copy 134 = .ok (.goto 4, 3) := by decide +kernel
theorem dX8_copy_137 : decode cX8_copy 137 = .ok (.iconst 0, 1) := by decide +kernel
theorem dX8_copy_138 : decode cX8_copy 138 = .ok (.istore 6, 2) := by decide +kernel
theorem dX8_copy_140 : decode cX8_copy 140 = .ok (.iconst 0, 1) := by decide +kernel
theorem dX8_copy_141 : decode cX8_copy 141 = .ok (.istore 7, 2) := by decide +kernel
theorem dX8_copy_143 : decode cX8_copy 143 = .ok (.iload 7, 2) := by decide +kernel
theorem dX8_copy_145 : decode cX8_copy 145 = .ok (.iload 5, 2) := by decide +kernel
theorem dX8_copy_147 : decode cX8_copy 147 = .ok (.if_icmp .ge 57, 3) := by decide +kernel
theorem dX8_copy_150 : decode cX8_copy 150 = .ok (.iload 6, 2) := by decide +kernel
theorem dX8_copy_152 : decode cX8_copy 152 = .ok (.ifCond .eq 8, 3) := by decide +kernel
theorem dX8_copy_155 : decode cX8_copy 155 = .ok (.iload 7, 2) := by decide +kernel
theorem dX8_copy_157 : decode cX8_copy 157 = .ok (.goto 10, 3) := by decide +kernel
theorem dX8_copy_160 : decode cX8_copy 160 = .ok (.iload 5, 2) := by decide +kernel
theorem dX8_copy_162 : decode cX8_copy 162 = .ok (.iconst 1, 1) := by decide +kernel
theorem dX8_copy_163 : decode cX8_copy 163 = .ok (.isub, 1) := by decide +kernel
theorem dX8_copy_164 : decode cX8_copy 164 = .ok (.iload 7, 2) := by decide +kernel
theorem dX8_copy_166 : decode cX8_copy 166 = .ok (.isub, 1) := by decide +kernel
theorem dX8_copy_167 : decode cX8_copy 167 = .ok (.istore 8, 2) := by decide +kernel
theorem dX8_copy_169 : decode cX8_copy 169 = .ok (.aload_n 0, 1) := by decide +kernel
theorem dX8_copy_170 : decode cX8_copy 170 = .ok (.getfield 16, 3) := by decide +kernel
theorem dX8_copy_173 : decode cX8_copy 173 = .ok (.bipush 40, 2) := by decide +kernel
theorem dX8_copy_175 : decode cX8_copy 175 = .ok (.iload_n 3, 1) := by decide +kernel
theorem dX8_copy_176 : decode cX8_copy 176 = .ok (.imul, 1) := by decide +kernel
theorem dX8_copy_177 : decode cX8_copy 177 = .ok (.iload 4, 2) := by decide +kernel
theorem dX8_copy_179 : decode cX8_copy 179 = .ok (.iadd, 1) := by decide +kernel
theorem dX8_copy_180 : decode cX8_copy 180 = .ok (.iload 8, 2) := by decide +kernel
theorem dX8_copy_182 : decode cX8_copy 182 = .ok (.iadd, 1) := by decide +kernel
theorem dX8_copy_183 : decode cX8_copy 183 = .ok (.aload_n 0, 1) := by decide +kernel
theorem dX8_copy_184 : decode cX8_copy 184 = .ok (.getfield 16, 3) := by decide +kernel
theorem dX8_copy_187 : decode cX8_copy 187 = .ok (.bipush 40, 2) := by decide +kernel
theorem dX8_copy_189 : decode cX8_copy 189 = .ok (.iload_n 1, 1) := by decide +kernel
theorem dX8_copy_190 : decode cX8_copy 190 = .ok (.imul, 1) := by decide +kernel
theorem dX8_copy_191 : decode cX8_copy 191 = .ok (.iload_n 2, 1) := by decide +kernel
theorem dX8_copy_192 : decode cX8_copy 192 = .ok (.iadd, 1) := by decide +kernel
theorem dX8_copy_193 : decode cX8_copy 193 = .ok (.iload 8, 2) := by decide +kernel
theorem dX8_copy_195 : decode cX8_copy 195 = .ok (.iadd, 1) := by decide +kernel
theorem dX8_copy_196 : decode cX8_copy 196 = .ok (.iaload, 1) := by decide +kernel
theorem dX8_copy_197 : decode cX8_copy 197 = .ok (.iastore, 1) := by decide +kernel
theorem dX8_copy_198 : decode cX8_copy 198 = .ok (.iinc 7 1, 3) := by decide +kernel
theorem dX8_copy_201 : decode cX8_copy 201 = .ok (.goto (-58), 3) := by decide +kernel
theorem dX8_copy_204 : decode cX8_copy 204 = .ok (.iload 5, 2) := by decide +kernel
theorem dX8_copy_206 : decode cX8_copy 206 = .ok (.ireturn, 1) := by decide +kernel
theorem dX8_drop_0 : decode cX8_drop 0 = .ok (.aload_n 0, 1) := by decide +kernel
theorem dX8_drop_1 : decode cX8_drop 1 = .ok (.iconst 0, 1) := by decide +kernel
theorem dX8_drop_2 : decode cX8_drop 2 = .ok (.putfield 53, 3) := by decide +kernel
theorem dX8_drop_5 : decode cX8_drop 5 = .ok (.iload_n 1, 1) := by decide +kernel
theorem dX8_drop_6 : decode cX8_drop 6 = .ok (.invokestatic 67, 3) := by decide +kernel
theorem dX8_drop_9 : decode cX8_drop 9 = .ok (.ifCond .ne 6, 3) := by decide +kernel
theorem dX8_drop_12 : decode cX8_drop 12 = .ok (.ldc 73, 2) := by decide +kernel
theorem dX8_drop_14 : decode cX8_drop 14 = .ok (.ireturn, 1) := by decide +kernel
theorem dX8_drop_15 : decode cX8_drop 15 = .ok (.aload_n 0, 1) := by decide +kernel
theorem dX8_drop_16 : decode cX8_drop 16 = .ok (.iconst 0, 1) := by decide +kernel
theorem dX8_drop_17 : decode cX8_drop 17 = .ok (.putfield 57, 3) := by decide +kernel
theorem dX8_drop_20 : decode cX8_drop 20 = .ok (.aload_n 0, 1) := by decide +kernel
theorem dX8_drop_21 : decode cX8_drop 21 = .ok (.getfield 7, 3) := by decide +kernel
theorem dX8_drop_24 : decode cX8_drop 24 = .ok (.iload_n 1, 1) := by decide +kernel
theorem dX8_drop_25 : decode cX8_drop 25 = .ok (.iaload, 1) := by decide +kernel
theorem dX8_drop_26 : decode cX8_drop 26 = .ok (.ifCond .ge 9, 3) := by decide +kernel
theorem dX8_drop_29 : decode cX8_drop 29 = .ok (.aload_n 0, 1) := by decide +kernel
theorem dX8_drop_30 : decode cX8_drop 30 = .ok (.iconst 1, 1) := by decide +kernel
theorem dX8_drop_31 : decode cX8_drop 31 = .ok (.invokevirtual 74, 3) := by decide +kernel
theorem dX8_drop_34 : decode cX8_drop 34 = .ok (.ireturn, 1) := by decide +kernel
theorem dX8_drop_35 : decode cX8_drop 35 = .ok (.aload_n 0, 1) := by decide +kernel
theorem dX8_drop_36 : decode cX8_drop 36 = .ok (.getfield 7, 3) := by decide +kernel
theorem dX8_drop_39 : decode cX8_drop 39 = .ok (.iload_n 1, 1) := by decide +kernel
theorem dX8_drop_40 : decode cX8_drop 40 = .ok (.iconst (-1), 1) := by decide +kernel
theorem dX8_drop_41 : decode cX8_drop 41 = .ok (.iastore, 1) := by decide +kernel
theorem dX8_drop_42 : decode cX8_drop 42 = .ok (.aload_n 0, 1) := by decide +kernel
theorem dX8_drop_43 : decode cX8_drop 43 = .ok (.getfield 13, 3) := by decide +kernel
theorem dX8_drop_46 : decode cX8_drop 46 = .ok (.iload_n 1, 1) := by decide +kernel
theorem dX8_drop_47 : decode cX8_drop 47 = .ok (.iaload, 1) := by decide +kernel
theorem dX8_drop_48 : decode cX8_drop 48 = .ok (.ireturn, 1) := by decide +kernel
theorem dX8_feed_0 : decode cX8_feed 0 = .ok (.aload_n 0, 1) := by decide +kernel
theorem dX8_feed_1 : decode cX8_feed 1 = .ok (.iconst 0, 1) := by decide +kernel
theorem dX8_feed_2 : decode cX8_feed 2 = .ok (.putfield 53, 3) := by decide +kernel
theorem dX8_feed_5 : decode cX8_feed 5 = .ok (.iload_n 1, 1) := by decide +kernel
theorem dX8_feed_6 : decode cX8_feed 6 = .ok (.i2l, 1) := by decide +kernel
theorem dX8_feed_7 : decode cX8_feed 7 = .ok (.lconst 0, 1) := by decide +kernel
theorem dX8_feed_8 : decode cX8_feed 8 = .ok (.ldc2_w 78, 3) := by decide +kernel
theorem dX8_feed_11 : decode cX8_feed 11 = .ok (.invokestatic 63, 3) := by decide +kernel
theorem dX8_feed_14 : decode cX8_feed 14 = .ok (.ifCond .ne 6, 3) := by decide +kernel
theorem dX8_feed_17 : decode cX8_feed 17 = .ok (.ldc 73, 2) := by decide +kernel
theorem dX8_feed_19 : decode cX8_feed 19 = .ok (.ireturn, 1) := by decide +kernel
theorem dX8_feed_20 : decode cX8_feed 20 = .ok (.aload_n 0, 1) := by decide +kernel
theorem dX8_feed_21 : decode cX8_feed 21 = .ok (.getfield 80, 3) := by decide +kernel
theorem dX8_feed_24 : decode cX8_feed 24 = .ok (.bipush 120, 2) := by decide +kernel
theorem dX8_feed_26 : decode cX8_feed 26 = .ok (.if_icmp .ne 6, 3) := by decide +kernel
theorem dX8_feed_29 : decode cX8_feed 29 = .ok (.ldc 83, 2) := by decide +kernel
theorem dX8_feed_31 : decode cX8_feed 31 = .ok (.ireturn, 1) := by decide +kernel
theorem dX8_feed_32 : decode cX8_feed 32 = .ok (.aload_n 0, 1) := by decide +kernel
theorem dX8_feed_33 : decode cX8_feed 33 = .ok (.getfield 31, 3) := by decide +kernel
theorem dX8_feed_36 : decode cX8_feed 36 = .ok (.aload_n 0, 1) := by decide +kernel
theorem dX8_feed_37 : decode cX8_feed 37 = .ok (.getfield 80, 3) := by decide +kernel
theorem dX8_feed_40 : decode cX8_feed 40 = .ok (.iload_n 1, 1) := by decide +kernel
theorem dX8_feed_41 : decode cX8_feed 41 = .ok (.iastore, 1) := by decide +kernel
theorem dX8_feed_42 : decode cX8_feed 42 = .ok (.aload_n 0, 1) := by decide +kernel
theorem dX8_feed_43 : decode cX8_feed 43 = .ok (.dup, 1) := by decide +kernel
theorem dX8_feed_44 : decode cX8_feed 44 = .ok (.getfield 80, 3) := by decide +kernel
theorem dX8_feed_47 : decode cX8_feed 47 = .ok (.iconst 1, 1) := by decide +kernel
theorem dX8_feed_48 : decode cX8_feed 48 = .ok (.iadd, 1) := by decide +kernel
theorem dX8_feed_49 : decode cX8_feed 49 = .ok (.putfield 80, 3) := by decide +kernel
theorem dX8_feed_52 : decode cX8_feed 52 = .ok (.aload_n 0, 1) := by decide +kernel
theorem dX8_feed_53 : decode cX8_feed 53 = .ok (.getfield 80, 3) := by decide +kernel
theorem dX8_feed_56 : decode cX8_feed 56 = .ok (.ireturn, 1) := by decide +kernel
theorem dX8_bad_0 : decode cX8_bad 0 = .ok (.aload_n 0, 1) := by decide +kernel
theorem dX8_bad_1 : decode cX8_bad 1 = .ok (.getfield 84, 3) := by decide +kernel
theorem dX8_bad_4 : decode cX8_bad 4 = .ok (.ifCond .ne 16, 3) := by decide +kernel
theorem dX8_bad_7 : decode cX8_bad 7 = .ok (.aload_n 0, 1) := by decide +kernel
theorem dX8_bad_8 : decode cX8_bad 8 = .ok (.iload_n 1, 1) := by decide +kernel
theorem dX8_bad_9 : decode cX8_bad 9 = .ok (.putfield 84, 3) := by decide +kernel
theorem dX8_bad_12 : decode cX8_bad 12 = .ok (.aload_n 0, 1) := by decide +kernel
theorem dX8_bad_13 : decode cX8_bad 13 = .ok (.aload_n 0, 1) := by decide +kernel
theorem dX8_bad_14 : decode cX8_bad 14 = .ok (.getfield 87, 3) := by decide +kernel
theorem dX8_bad_17 : decode cX8_bad 17 = .ok (.putfield 90, 3) := by decide +kernel
theorem dX8_bad_20 : decode cX8_bad 20 = .ok (.return_, 1) := by decide +kernel
theorem dX8_nextToken_0 : decode cX8_nextToken 0 = .ok (.aload_n 0, 1) := by decide +kernel
theorem dX8_nextToken_1 : decode cX8_nextToken 1 = .ok (.aload_n 0, 1) := by decide +kernel
theorem dX8_nextToken_2 : decode cX8_nextToken 2 = .ok (.getfield 93, 3) := by decide +kernel
theorem dX8_nextToken_5 : decode cX8_nextToken 5 = .ok (.putfield 87, 3) := by decide +kernel
theorem dX8_nextToken_8 : decode cX8_nextToken 8 = .ok (.aload_n 0, 1) := by decide +kernel
theorem dX8_nextToken_9 : decode cX8_nextToken 9 = .ok (.aload_n 0, 1) := by decide +kernel
theorem dX8_nextToken_10 : decode cX8_nextToken 10 = .ok (.getfield 93, 3) := by decide +kernel
theorem dX8_nextToken_13 : decode cX8_nextToken 13 = .ok (.aload_n 0, 1) := by decide +kernel
theorem dX8_nextToken_14 : decode cX8_nextToken 14 = .ok (.getfield 80, 3) := by decide +kernel
theorem dX8_nextToken_17 : decode cX8_nextToken 17 = .ok (.if_icmp .ge 15, 3) := by decide +kernel
theorem dX8_nextToken_20 : decode cX8_nextToken 20 = .ok (.aload_n 0, 1) := by decide +kernel
theorem dX8_nextToken_21 : decode cX8_nextToken 21 = .ok (.getfield 31, 3) := by decide +kernel
theorem dX8_nextToken_24 : decode cX8_nextToken 24 = .ok (.aload_n 0, 1) := by decide +kernel
theorem dX8_nextToken_25 : decode cX8_nextToken 25 = .ok (.getfield 93, 3) := by decide +kernel
theorem dX8_nextToken_28 : decode cX8_nextToken 28 = .ok (.iaload, 1) := by decide +kernel
theorem dX8_nextToken_29 : decode cX8_nextToken 29 = .ok (.goto 5, 3) := by decide +kernel
theorem dX8_nextToken_32 : decode cX8_nextToken 32 = .ok (.ldc 96, 2) := by decide +kernel
theorem dX8_nextToken_34 : decode cX8_nextToken 34 = .ok (.putfield 97, 3) := by decide +kernel
theorem dX8_nextToken_37 : decode cX8_nextToken 37 = .ok (.aload_n 0, 1) := by decide +kernel
theorem dX8_nextToken_38 : decode cX8_nextToken 38 = .ok (.aload_n 0, 1) := by decide +kernel
theorem dX8_nextToken_39 : decode cX8_nextToken 39 = .ok (.getfield 93, 3) := by decide +kernel
theorem dX8_nextToken_42 : decode cX8_nextToken 42 = .ok (.aload_n 0, 1) := by decide +kernel
theorem dX8_nextToken_43 : decode cX8_nextToken 43 = .ok (.getfield 80, 3) := by decide +kernel
theorem dX8_nextToken_46 : decode cX8_nextToken 46 = .ok (.if_icmp .ne 7, 3) := by decide +kernel
theorem dX8_nextToken_49 : decode cX8_nextToken 49 = .ok (.iconst 1, 1) := by decide +kernel
theorem dX8_nextToken_50 : decode cX8_nextToken 50 = .ok (.goto 68, 3) := by decide +kernel
theorem dX8_nextToken_53 : decode cX8_nextToken 53 = .ok (.aload_n 0, 1) := by decide +kernel
theorem dX8_nextToken_54 : decode cX8_nextToken 54 = .ok (.getfield 97, 3) := by decide +kernel
theorem dX8_nextToken_57 : decode cX8_nextToken 57 = .ok (.i2l, 1) := by decide +kernel
theorem dX8_nextToken_58 : decode cX8_nextToken 58 = .ok (.ldc2_w 100, 3) := by decide +kernel
theorem dX8_nextToken_61 : decode cX8_nextToken 61 = .ok (.ldc2_w 102, 3) := by decide +kernel
theorem dX8_nextToken_64 : decode cX8_nextToken 64 = .ok (.invokestatic 63, 3) := by decide +kernel
theorem dX8_nextToken_67 : decode cX8_nextToken 67 = .ok (.ifCond .eq 7, 3) := by decide +kernel
theorem dX8_nextToken_70 : decode cX8_nextToken 70 = .ok (.iconst 2, 1) := by decide +kernel
theorem dX8_nextToken_71 : decode cX8_nextToken 71 = .ok (.goto 47, 3) := by decide +kernel
theorem dX8_nextToken_74 : decode cX8_nextToken 74 = .ok (.aload_n 0, 1) := by decide +kernel
theorem dX8_nextToken_75 : decode cX8_nextToken 75 = .ok (.getfield 97, 3) := by decide +kernel
theorem dX8_nextToken_78 : decode cX8_nextToken 78 = .ok (.i2l, 1) := by decide +kernel
theorem dX8_nextToken_79 : decode cX8_nextToken 79 = .ok (.ldc2_w 104, 3) := by decide +kernel
theorem dX8_nextToken_82 : decode cX8_nextToken 82 = .ok (.ldc2_w 106, 3) := by decide +kernel
theorem dX8_nextToken_85 : decode cX8_nextToken 85 = .ok (.invokestatic 63, 3) := by decide +kernel
theorem dX8_nextToken_88 : decode cX8_nextToken 88 = .ok (.ifCond .eq 7, 3) := by decide +kernel
theorem dX8_nextToken_91 : decode cX8_nextToken 91 = .ok (.iconst 3, 1) := by decide +kernel
theorem dX8_nextToken_92 : decode cX8_nextToken 92 = .ok (.goto 26, 3) := by decide +kernel
theorem dX8_nextToken_95 : decode cX8_nextToken 95 = .ok (.aload_n 0, 1) := by decide +kernel
theorem dX8_nextToken_96 : decode cX8_nextToken 96 = .ok (.getfield 97, 3) := by decide +kernel
theorem dX8_nextToken_99 : decode cX8_nextToken 99 = .ok (.bipush 44, 2) := by decide +kernel
theorem dX8_nextToken_101 : decode cX8_nextToken 101 = .ok (.if_icmp .eq 12, 3) := by decide +kernel
theorem dX8_nextToken_104 : decode cX8_nextToken 104 = .ok (.aload_n 0, 1) := by decide +kernel
theorem dX8_nextToken_105 : decode cX8_nextToken 105 = .ok (.getfield 97, 3) := by decide +kernel
theorem dX8_nextToken_108 : decode cX8_nextToken 108 = .ok (.bipush 59, 2) := by decide +kernel
theorem dX8_nextToken_110 : decode cX8_nextToken 110 = .ok (.if_icmp .ne 7, 3) := by decide +kernel
theorem dX8_nextToken_113 : decode cX8_nextToken 113 = .ok (.iconst 4, 1) := by decide +kernel
theorem dX8_nextToken_114 : decode cX8_nextToken 114 = .ok (.goto 4, 3) := by decide +kernel
theorem dX8_nextToken_117 : decode cX8_nextToken 117 = .ok (.iconst 0, 1) := by decide +kernel
theorem dX8_nextToken_118 : decode cX8_nextToken 118 = .ok (.putfield 108, 3) := by decide +kernel
theorem dX8_nextToken_121 : decode cX8_nextToken 121 = .ok (.aload_n 0, 1) := by decide +kernel
theorem dX8_nextToken_122 : decode cX8_nextToken 122 = .ok (.dup, 1) := by decide +kernel
theorem dX8_nextToken_123 : decode cX8_nextToken 123 = .ok (.getfield 93, 3) := by decide +kernel
theorem dX8_nextToken_126 : decode cX8_nextToken 126 = .ok (.aload_n 0, 1) := by decide +kernel
theorem dX8_nextToken_127 : decode cX8_nextToken 127 = .ok (.getfield 93, 3) := by decide +kernel
theorem dX8_nextToken_130 : decode cX8_nextToken 130 = .ok (.aload_n 0, 1) := by decide +kernel
theorem dX8_nextToken_131 : decode cX8_nextToken 131 = .ok (.getfield 80, 3) := by decide +kernel
theorem dX8_nextToken_134 : decode cX8_nextToken 134 = .ok (.if_icmp .ge 7, 3) := by decide +kernel
theorem dX8_nextToken_137 : decode cX8_nextToken 137 = .ok (.iconst 1, 1) := by decide +kernel
theorem dX8_nextToken_138 : decode cX8_nextToken 138 = .ok (.goto 4, 3) := by decide +kernel
theorem dX8_nextToken_141 : decode cX8_nextToken 141 = .ok (.iconst 0, 1) := by decide +kernel
theorem dX8_nextToken_142 : decode cX8_nextToken 142 = .ok (.iadd, 1) := by decide +kernel
theorem dX8_nextToken_143 : decode cX8_nextToken 143 = .ok (.putfield 93, 3) := by decide +kernel
theorem dX8_nextToken_146 : decode cX8_nextToken 146 = .ok (.aload_n 0, 1) := by decide +kernel
theorem dX8_nextToken_147 : decode cX8_nextToken 147 = .ok (.getfield 108, 3) := by decide +kernel
theorem dX8_nextToken_150 : decode cX8_nextToken 150 = .ok (.iconst 3, 1) := by decide +kernel
theorem dX8_nextToken_151 : decode cX8_nextToken 151 = .ok (.if_icmp .ne 126, 3) := by decide +kernel
theorem dX8_nextToken_154 : decode cX8_nextToken 154 = .ok (.aload_n 0, 1) := by decide +kernel
theorem dX8_nextToken_155 : decode cX8_nextToken 155 = .ok (.dup, 1) := by decide +kernel
theorem dX8_nextToken_156 : decode cX8_nextToken 156 = .ok (.getfield 97, 3) := by decide +kernel
theorem dX8_nextToken_159 : decode cX8_nextToken 159 = .ok (.bipush 48, 2) := by decide +kernel
theorem dX8_nextToken_161 : decode cX8_nextToken 161 = .ok (.isub, 1) := by decide +kernel
theorem dX8_nextToken_162 : decode cX8_nextToken 162 = .ok (.putfield 97, 3) := by decide +kernel
theorem dX8_nextToken_165 : decode cX8_nextToken 165 = .ok (.aload_n 0, 1) := by decide +kernel
theorem dX8_nextToken_166 : decode cX8_nextToken 166 = .ok (.getfield 93, 3) := by decide +kernel
theorem dX8_nextToken_169 : decode cX8_nextToken 169 = .ok (.aload_n 0, 1) := by decide +kernel
theorem dX8_nextToken_170 : decode cX8_nextToken 170 = .ok (.getfield 80, 3) := by decide +kernel
theorem dX8_nextToken_173 : decode cX8_nextToken 173 = .ok (.if_icmp .ge 82, 3) := by decide +kernel
theorem dX8_nextToken_176 : decode cX8_nextToken 176 = .ok (.aload_n 0, 1) := by decide +kernel
theorem dX8_nextToken_177 : decode cX8_nextToken 177 = .ok (.getfield 31, 3) := by decide +kernel
theorem dX8_nextToken_180 : decode cX8_nextToken 180 = .ok (.aload_n 0, 1) := by decide +kernel
theorem dX8_nextToken_181 : decode cX8_nextToken 181 = .ok (.getfield 93, 3) := by decide +kernel
theorem dX8_nextToken_184 : decode cX8_nextToken 184 = .ok (.iaload, 1) := by decide +kernel
theorem dX8_nextToken_185 : decode cX8_nextToken 185 = .ok (.i2l, 1) := by decide +kernel
theorem dX8_nextToken_186 : decode cX8_nextToken 186 = .ok (.ldc2_w 104, 3) := by decide +kernel
theorem dX8_nextToken_189 : decode cX8_nextToken 189 = .ok (.ldc2_w 106, 3) := by decide +kernel
theorem dX8_nextToken_192 : decode cX8_nextToken 192 = .ok (.invokestatic 63, 3) := by decide +kernel
theorem dX8_nextToken_195 : decode cX8_nextToken 195 = .ok (.ifCond .eq 60, 3) := by decide +kernel
theorem dX8_nextToken_198 : decode cX8_nextToken 198 = .ok (.aload_n 0, 1) := by decide +kernel
theorem dX8_nextToken_199 : decode cX8_nextToken 199 = .ok (.aload_n 0, 1) := by decide +kernel
theorem dX8_nextToken_200 : decode cX8_nextToken 200 = .ok (.getfield 93, 3) := by decide +kernel
theorem dX8_nextToken_203 : decode cX8_nextToken 203 = .ok (.aload_n 0, 1) := by decide +kernel
theorem dX8_nextToken_204 : decode cX8_nextToken 204 = .ok (.getfield 87, 3) := by decide +kernel
theorem dX8_nextToken_207 : decode cX8_nextToken 207 = .ok (.isub, 1) := by decide +kernel
theorem dX8_nextToken_208 : decode cX8_nextToken 208 = .ok (.iconst 2, 1) := by decide +kernel
theorem dX8_nextToken_209 : decode cX8_nextToken 209 = .ok (.if_icmp .ge 26, 3) := by decide +kernel
theorem dX8_nextToken_212 : decode cX8_nextToken 212 = .ok (.bipush 10, 2) := by decide +kernel
theorem dX8_nextToken_214 : decode cX8_nextToken 214 = .ok (.aload_n 0, 1) := by decide +kernel
theorem dX8_nextToken_215 : decode cX8_nextToken 215 = .ok (.getfield 97, 3) := by decide +kernel
theorem dX8_nextToken_218 : decode cX8_nextToken 218 = .ok (.imul, 1) := by decide +kernel
theorem dX8_nextToken_219 : decode cX8_nextToken 219 = .ok (.aload_n 0, 1) := by decide +kernel
theorem dX8_nextToken_220 : decode cX8_nextToken 220 = .ok (.getfield 31, 3) := by decide +kernel
theorem dX8_nextToken_223 : decode cX8_nextToken 223 = .ok (.aload_n 0, 1) := by decide +kernel
theorem dX8_nextToken_224 : decode cX8_nextToken 224 = .ok (.getfield 93, 3) := by decide +kernel
theorem dX8_nextToken_227 : decode cX8_nextToken 227 = .ok (.iaload, 1) := by decide +kernel
theorem dX8_nextToken_228 : decode cX8_nextToken 228 = .ok (.iadd, 1) := by decide +kernel
theorem dX8_nextToken_229 : decode cX8_nextToken 229 = .ok (.bipush 48, 2) := by decide +kernel
theorem dX8_nextToken_231 : decode cX8_nextToken 231 = .ok (.isub, 1) := by decide +kernel
theorem dX8_nextToken_232 : decode cX8_nextToken 232 = .ok (.goto 7, 3) := by decide +kernel
theorem dX8_nextToken_235 : decode cX8_nextToken 235 = .ok (.aload_n 0, 1) := by decide +kernel
theorem dX8_nextToken_236 : decode cX8_nextToken 236 = .ok (.getfield 97, 3) := by decide +kernel
theorem dX8_nextToken_239 : decode cX8_nextToken 239 = .ok (.putfield 97, 3) := by decide +kernel
theorem dX8_nextToken_242 : decode cX8_nextToken 242 = .ok (.aload_n 0, 1) := by decide +kernel
theorem dX8_nextToken_243 : decode cX8_nextToken 243 = .ok (.dup, 1) := by decide +kernel
theorem dX8_nextToken_244 : decode cX8_nextToken 244 = .ok (.getfield 93, 3) := by decide +kernel
theorem dX8_nextToken_247 : decode cX8_nextToken 247 = .ok (.iconst 1, 1) := by decide +kernel
theorem dX8_nextToken_248 : decode cX8_nextToken 248 = .ok (.iadd, 1) := by decide +kernel
theorem dX8_nextToken_249 : decode cX8_nextToken 249 = .ok (.putfield 93, 3) := by decide +kernel
theorem dX8_nextToken_252 : decode cX8_nextToken 252 = .ok (.goto (-87), 3) := by decide +kernel
theorem dX8_nextToken_255 : decode cX8_nextToken 255 = .ok (.aload_n 0, 1) := by decide +kernel
theorem dX8_nextToken_256 : decode cX8_nextToken 256 = .ok (.aload_n 0, 1) := by decide +kernel
theorem dX8_nextToken_257 : decode cX8_nextToken 257 = .ok (.getfield 93, 3) := by decide +kernel
theorem dX8_nextToken_260 : decode cX8_nextToken 260 = .ok (.aload_n 0, 1) := by decide +kernel
theorem dX8_nextToken_261 : decode cX8_nextToken 261 = .ok (.getfield 87, 3) := by decide +kernel
theorem dX8_nextToken_264 : decode cX8_nextToken 264 = .ok (.isub, 1) := by decide +kernel
theorem dX8_nextToken_265 : decode cX8_nextToken 265 = .ok (.iconst 2, 1) := by decide +kernel
theorem dX8_nextToken_266 : decode cX8_nextToken 266 = .ok (.if_icmp .le 7, 3) := by decide +kernel
theorem dX8_nextToken_269 : decode cX8_nextToken 269 = .ok (.iconst 0, 1) := by decide +kernel
theorem dX8_nextToken_270 : decode cX8_nextToken 270 = .ok (.goto 4, 3) := by decide +kernel
theorem dX8_nextToken_273 : decode cX8_nextToken 273 = .ok (.iconst 3, 1) := by decide +kernel
theorem dX8_nextToken_274 : decode cX8_nextToken 274 = .ok (.putfield 108, 3) := by decide +kernel
theorem dX8_nextToken_277 : decode cX8_nextToken 277 = .ok (.return_, 1) := by decide +kernel
theorem dX8_must_0 : decode cX8_must 0 = .ok (.iload_n 1, 1) := by decide +kernel
theorem dX8_must_1 : decode cX8_must 1 = .ok (.ifCond .ne 8, 3) := by decide +kernel
theorem dX8_must_4 : decode cX8_must 4 = .ok (.aload_n 0, 1) := by decide +kernel
theorem dX8_must_5 : decode cX8_must 5 = .ok (.iconst 1, 1) := by decide +kernel
theorem dX8_must_6 : decode cX8_must 6 = .ok (.invokevirtual 111, 3) := by decide +kernel
theorem dX8_must_9 : decode cX8_must 9 = .ok (.aload_n 0, 1) := by decide +kernel
theorem dX8_must_10 : decode cX8_must 10 = .ok (.getfield 84, 3) := by decide +kernel
theorem dX8_must_13 : decode cX8_must 13 = .ok (.ifCond .ne 7, 3) := by decide +kernel
theorem dX8_must_16 : decode cX8_must 16 = .ok (.aload_n 0, 1) := by decide +kernel
theorem dX8_must_17 : decode cX8_must 17 = .ok (.invokevirtual 115, 3) := by decide +kernel
theorem dX8_must_20 : decode cX8_must 20 = .ok (.return_, 1) := by decide +kernel
theorem dX8_isLetter_0 : decode cX8_isLetter 0 = .ok (.aload_n 0, 1) := by decide +kernel
theorem dX8_isLetter_1 : decode cX8_isLetter 1 = .ok (.getfield 84, 3) := by decide +kernel
theorem dX8_isLetter_4 : decode cX8_isLetter 4 = .ok (.ifCond .ne 23, 3) := by decide +kernel
theorem dX8_isLetter_7 : decode cX8_isLetter 7 = .ok (.aload_n 0, 1) := by decide +kernel
theorem dX8_isLetter_8 : decode cX8_isLetter 8 = .ok (.getfield 108, 3) := by decide +kernel
theorem dX8_isLetter_11 : decode cX8_isLetter 11 = .ok (.iconst 2, 1) := by decide +kernel
theorem dX8_isLetter_12 : decode cX8_isLetter 12 = .ok (.if_icmp .ne 15, 3) := by decide +kernel
theorem dX8_isLetter_15 : decode cX8_isLetter 15 = .ok (.aload_n 0, 1) := by decide +kernel
theorem dX8_isLetter_16 : decode cX8_isLetter 16 = .ok (.getfield 97, 3) := by decide +kernel
theorem dX8_isLetter_19 : decode cX8_isLetter 19 = .ok (.iload_n 1, 1) := by decide +kernel
theorem dX8_isLetter_20 : decode cX8_isLetter 20 = .ok (.if_icmp .ne 7, 3) := by decide +kernel
theorem dX8_isLetter_23 : decode cX8_isLetter 23 = .ok (.iconst 1, 1) := by decide +kernel
theorem dX8_isLetter_24 : decode cX8_isLetter 24 = .ok (.goto 4, 3) := by decide +kernel
theorem dX8_isLetter_27 : decode cX8_isLetter 27 = .ok (.iconst 0, 1) := by decide +kernel
theorem dX8_isLetter_28 : decode cX8_isLetter 28 = .ok (.ireturn, 1) := by decide +kernel
theorem dX8_number_0 : decode cX8_number 0 = .ok (.aload_n 0, 1) := by decide +kernel
theorem dX8_number_1 : decode cX8_number 1 = .ok (.getfield 84, 3) := by decide +kernel
theorem dX8_number_4 : decode cX8_number 4 = .ok (.ifCond .ne 16, 3) := by decide +kernel
theorem dX8_number_7 : decode cX8_number 7 = .ok (.aload_n 0, 1) := by decide +kernel
theorem dX8_number_8 : decode cX8_number 8 = .ok (.getfield 108, 3) := by decide +kernel
theorem dX8_number_11 : decode cX8_number 11 = .ok (.iconst 3, 1) := by decide +kernel
theorem dX8_number_12 : decode cX8_number 12 = .ok (.if_icmp .eq 8, 3) := by decide +kernel
theorem dX8_number_15 : decode cX8_number 15 = .ok (.aload_n 0, 1) := by decide +kernel
theorem dX8_number_16 : decode cX8_number 16 = .ok (.iconst 1, 1) := by decide +kernel
theorem dX8_number_17 : decode cX8_number 17 = .ok (.invokevirtual 111, 3) := by decide +kernel
theorem dX8_number_20 : decode cX8_number 20 = .ok (.aload_n 0, 1) := by decide +kernel
theorem dX8_number_21 : decode cX8_number 21 = .ok (.getfield 84, 3) := by decide +kernel
theorem dX8_number_24 : decode cX8_number 24 = .ok (.ifCond .ne 23, 3) := by decide +kernel
theorem dX8_number_27 : decode cX8_number 27 = .ok (.aload_n 0, 1) := by decide +kernel
theorem dX8_number_28 : decode cX8_number 28 = .ok (.getfield 97, 3) := by decide +kernel
theorem dX8_number_31 : decode cX8_number 31 = .ok (.i2l, 1) := by decide +kernel
theorem dX8_number_32 : decode cX8_number 32 = .ok (.iload_n 1, 1) := by decide +kernel
theorem dX8_number_33 : decode cX8_number 33 = .ok (.i2l, 1) := by decide +kernel
theorem dX8_number_34 : decode cX8_number 34 = .ok (.iload_n 2, 1) := by decide +kernel
theorem dX8_number_35 : decode cX8_number 35 = .ok (.i2l, 1) := by decide +kernel
theorem dX8_number_36 : decode cX8_number 36 = .ok (.invokestatic 63, 3) := by decide +kernel
theorem dX8_number_39 : decode cX8_number 39 = .ok (.ifCond .ne 8, 3) := by decide +kernel
theorem dX8_number_42 : decode cX8_number 42 = .ok (.aload_n 0, 1) := by decide +kernel
theorem dX8_number_43 : decode cX8_number 43 = .ok (.iconst 2, 1) := by decide +kernel
theorem dX8_number_44 : decode cX8_number 44 = .ok (.invokevirtual 111, 3) := by decide +kernel
theorem dX8_number_47 : decode cX8_number 47 = .ok (.aload_n 0, 1) := by decide +kernel
theorem dX8_number_48 : decode cX8_number 48 = .ok (.getfield 84, 3) := by decide +kernel
theorem dX8_number_51 : decode cX8_number 51 = .ok (.ifCond .ne 10, 3) := by decide +kernel
theorem dX8_number_54 : decode cX8_number 54 = .ok (.aload_n 0, 1) := by decide +kernel
theorem dX8_number_55 : decode cX8_number 55 = .ok (.getfield 97, 3) := by decide +kernel
theorem dX8_number_58 : decode cX8_number 58 = .ok (.goto 4, 3) := by decide +kernel
theorem dX8_number_61 : decode cX8_number 61 = .ok (.iload_n 1, 1) := by decide +kernel
theorem dX8_number_62 : decode cX8_number 62 = .ok (.istore_n 3, 1) := by decide +kernel
theorem dX8_number_63 : decode cX8_number 63 = .ok (.aload_n 0, 1) := by decide +kernel
theorem dX8_number_64 : decode cX8_number 64 = .ok (.iconst 1, 1) := by decide +kernel
theorem dX8_number_65 : decode cX8_number 65 = .ok (.invokevirtual 118, 3) := by decide +kernel
theorem dX8_number_68 : decode cX8_number 68 = .ok (.iload_n 3, 1) := by decide +kernel
theorem dX8_number_69 : decode cX8_number 69 = .ok (.ireturn, 1) := by decide +kernel
theorem dX8_mustSign_0 : decode cX8_mustSign 0 = .ok (.aload_n 0, 1) := by decide +kernel
theorem dX8_mustSign_1 : decode cX8_mustSign 1 = .ok (.aload_n 0, 1) := by decide +kernel
theorem dX8_mustSign_2 : decode cX8_mustSign 2 = .ok (.getfield 108, 3) := by decide +kernel
theorem dX8_mustSign_5 : decode cX8_mustSign 5 = .ok (.iconst 4, 1) := by decide +kernel
theorem dX8_mustSign_6 : decode cX8_mustSign 6 = .ok (.if_icmp .ne 15, 3) := by decide +kernel
theorem dX8_mustSign_9 : decode cX8_mustSign 9 = .ok (.aload_n 0, 1) := by decide +kernel
theorem dX8_mustSign_10 : decode cX8_mustSign 10 = .ok (.getfield 97, 3) := by decide +kernel
theorem dX8_mustSign_13 : decode cX8_mustSign 13 = .ok (.iload_n 1, 1) := by decide +kernel
theorem dX8_mustSign_14 : decode cX8_mustSign 14 = .ok (.if_icmp .ne 7, 3) := by decide +kernel
theorem dX8_mustSign_17 : decode cX8_mustSign 17 = .ok (.iconst 1, 1) := by decide +kernel
theorem dX8_mustSign_18 : decode cX8_mustSign 18 = .ok (.goto 4, 3) := by decide +kernel
theorem dX8_mustSign_21 : decode cX8_mustSign 21 = .ok (.iconst 0, 1) := by decide +kernel
theorem dX8_mustSign_22 : decode cX8_mustSign 22 = .ok (.invokevirtual 118, 3) := by decide +kernel
theorem dX8_mustSign_25 : decode cX8_mustSign 25 = .ok (.return_, 1) := by decide +kernel
theorem dX8_startUp_0 : decode cX8_startUp 0 = .ok (.aload_n 0, 1) := by decide +kernel
theorem dX8_startUp_1 : decode cX8_startUp 1 = .ok (.iconst 0, 1) := by decide +kernel
theorem dX8_startUp_2 : decode cX8_startUp 2 = .ok (.putfield 93, 3) := by decide +kernel
theorem dX8_startUp_5 : decode cX8_startUp 5 = .ok (.aload_n 0, 1) := by decide +kernel
theorem dX8_startUp_6 : decode cX8_startUp 6 = .ok (.iconst 0, 1) := by decide +kernel
theorem dX8_startUp_7 : decode cX8_startUp 7 = .ok (.putfield 84, 3) := by decide +kernel
theorem dX8_startUp_10 : decode cX8_startUp 10 = .ok (.aload_n 0, 1) := by decide +kernel
theorem dX8_startUp_11 : decode cX8_startUp 11 = .ok (.invokevirtual 115, 3) := by decide +kernel
theorem dX8_startUp_14 : decode cX8_startUp 14 = .ok (.return_, 1) := by decide +kernel
theorem dX8_failed_0 : decode cX8_failed 0 = .ok (.aload_n 0, 1) := by decide +kernel
theorem dX8_failed_1 : decode cX8_failed 1 = .ok (.getfield 84, 3) := by decide +kernel
theorem dX8_failed_4 : decode cX8_failed 4 = .ok (.ifCond .ne 16, 3) := by decide +kernel
theorem dX8_failed_7 : decode cX8_failed 7 = .ok (.aload_n 0, 1) := by decide +kernel
theorem dX8_failed_8 : decode cX8_failed 8 = .ok (.getfield 108, 3) := by decide +kernel
theorem dX8_failed_11 : decode cX8_failed 11 = .ok (.iconst 1, 1) := by decide +kernel
theorem dX8_failed_12 : decode cX8_failed 12 = .ok (.if_icmp .eq 8, 3) := by decide +kernel
theorem dX8_failed_15 : decode cX8_failed 15 = .ok (.aload_n 0, 1) := by decide +kernel
theorem dX8_failed_16 : decode cX8_failed 16 = .ok (.iconst 1, 1) := by decide +kernel
theorem dX8_failed_17 : decode cX8_failed 17 = .ok (.invokevirtual 111, 3) := by decide +kernel
theorem dX8_failed_20 : decode cX8_failed 20 = .ok (.aload_n 0, 1) := by decide +kernel
theorem dX8_failed_21 : decode cX8_failed 21 = .ok (.iconst 0, 1) := by decide +kernel
theorem dX8_failed_22 : decode cX8_failed 22 = .ok (.putfield 80, 3) := by decide +kernel
theorem dX8_failed_25 : decode cX8_failed 25 = .ok (.aload_n 0, 1) := by decide +kernel
theorem dX8_failed_26 : decode cX8_failed 26 = .ok (.aload_n 0, 1) := by decide +kernel
theorem dX8_failed_27 : decode cX8_failed 27 = .ok (.getfield 84, 3) := by decide +kernel
theorem dX8_failed_30 : decode cX8_failed 30 = .ok (.ifCond .le 10, 3) := by decide +kernel
theorem dX8_failed_33 : decode cX8_failed 33 = .ok (.aload_n 0, 1) := by decide +kernel
theorem dX8_failed_34 : decode cX8_failed 34 = .ok (.getfield 84, 3) := by decide +kernel
theorem dX8_failed_37 : decode cX8_failed 37 = .ok (.goto 7, 3) := by decide +kernel
theorem dX8_failed_40 : decode cX8_failed 40 = .ok (.aload_n 0, 1) := by decide +kernel
theorem dX8_failed_41 : decode cX8_failed 41 = .ok (.getfield 122, 3) := by decide +kernel
theorem dX8_failed_44 : decode cX8_failed 44 = .ok (.putfield 122, 3) := by decide +kernel
theorem dX8_failed_47 : decode cX8_failed 47 = .ok (.aload_n 0, 1) := by decide +kernel
theorem dX8_failed_48 : decode cX8_failed 48 = .ok (.getfield 84, 3) := by decide +kernel
theorem dX8_failed_51 : decode cX8_failed 51 = .ok (.ifCond .le 7, 3) := by decide +kernel
theorem dX8_failed_54 : decode cX8_failed 54 = .ok (.iconst 1, 1) := by decide +kernel
theorem dX8_failed_55 : decode cX8_failed 55 = .ok (.goto 4, 3) := by decide +kernel
theorem dX8_failed_58 : decode cX8_failed 58 = .ok (.iconst 0, 1) := by decide +kernel
theorem dX8_failed_59 : decode cX8_failed 59 = .ok (.ireturn, 1) := by decide +kernel
theorem dX8_fault_0 : decode cX8_fault 0 = .ok (.aload_n 0, 1) := by decide +kernel
theorem dX8_fault_1 : decode cX8_fault 1 = .ok (.iconst 0, 1) := by decide +kernel
theorem dX8_fault_2 : decode cX8_fault 2 = .ok (.putfield 53, 3) := by decide +kernel
theorem dX8_fault_5 : decode cX8_fault 5 = .ok (.aload_n 0, 1) := by decide +kernel
theorem dX8_fault_6 : decode cX8_fault 6 = .ok (.getfield 122, 3) := by decide +kernel
theorem dX8_fault_9 : decode cX8_fault 9 = .ok (.ireturn, 1) := by decide +kernel
theorem dX8_kindBy_0 : decode cX8_kindBy 0 = .ok (.iload_n 0, 1) := by decide +kernel
theorem dX8_kindBy_1 : decode cX8_kindBy 1 = .ok (.bipush 119, 2) := by decide +kernel
theorem dX8_kindBy_3 : decode cX8_kindBy 3 = .ok (.if_icmp .ne 7, 3) := by decide +kernel
theorem dX8_kindBy_6 : decode cX8_kindBy 6 = .ok (.iconst 1, 1) := by decide +kernel
theorem dX8_kindBy_7 : decode cX8_kindBy 7 = .ok (.goto 45, 3) := by decide +kernel
theorem dX8_kindBy_10 : decode cX8_kindBy 10 = .ok (.iload_n 0, 1) := by decide +kernel
theorem dX8_kindBy_11 : decode cX8_kindBy 11 = .ok (.bipush 99, 2) := by decide +kernel
theorem dX8_kindBy_13 : decode cX8_kindBy 13 = .ok (.if_icmp .ne 7, 3) := by decide +kernel
theorem dX8_kindBy_16 : decode cX8_kindBy 16 = .ok (.iconst 2, 1) := by decide +kernel
theorem dX8_kindBy_17 : decode cX8_kindBy 17 = .ok (.goto 35, 3) := by decide +kernel
theorem dX8_kindBy_20 : decode cX8_kindBy 20 = .ok (.iload_n 0, 1) := by decide +kernel
theorem dX8_kindBy_21 : decode cX8_kindBy 21 = .ok (.bipush 100, 2) := by decide +kernel
theorem dX8_kindBy_23 : decode cX8_kindBy 23 = .ok (.if_icmp .ne 7, 3) := by decide +kernel
theorem dX8_kindBy_26 : decode cX8_kindBy 26 = .ok (.iconst 3, 1) := by decide +kernel
theorem dX8_kindBy_27 : decode cX8_kindBy 27 = .ok (.goto 25, 3) := by decide +kernel
theorem dX8_kindBy_30 : decode cX8_kindBy 30 = .ok (.iload_n 0, 1) := by decide +kernel
theorem dX8_kindBy_31 : decode cX8_kindBy 31 = .ok (.bipush 109, 2) := by decide +kernel
theorem dX8_kindBy_33 : decode cX8_kindBy 33 = .ok (.if_icmp .ne 7, 3) := by decide +kernel
theorem dX8_kindBy_36 : decode cX8_kindBy 36 = .ok (.iconst 4, 1) := by decide +kernel
theorem dX8_kindBy_37 : decode cX8_kindBy 37 = .ok (.goto 15, 3) := by decide +kernel
theorem dX8_kindBy_40 : decode cX8_kindBy 40 = .ok (.iload_n 0, 1) := by decide +kernel
theorem dX8_kindBy_41 : decode cX8_kindBy 41 = .ok (.bipush 98, 2) := by decide +kernel
theorem dX8_kindBy_43 : decode cX8_kindBy 43 = .ok (.if_icmp .ne 7, 3) := by decide +kernel
theorem dX8_kindBy_46 : decode cX8_kindBy 46 = .ok (.iconst 5, 1) := by decide +kernel
theorem dX8_kindBy_47 : decode cX8_kindBy 47 = .ok (.goto 5, 3) := by decide +kernel
theorem dX8_kindBy_50 : decode cX8_kindBy 50 = .ok (.ldc 96, 2) := by decide +kernel
theorem dX8_kindBy_52 : decode cX8_kindBy 52 = .ok (.ireturn, 1) := by decide +kernel
theorem dX8_isSort_0 : decode cX8_isSort 0 = .ok (.aload_n 0, 1) := by decide +kernel
theorem dX8_isSort_1 : decode cX8_isSort 1 = .ok (.getfield 84, 3) := by decide +kernel
theorem dX8_isSort_4 : decode cX8_isSort 4 = .ok (.ifCond .ne 27, 3) := by decide +kernel
theorem dX8_isSort_7 : decode cX8_isSort 7 = .ok (.aload_n 0, 1) := by decide +kernel
theorem dX8_isSort_8 : decode cX8_isSort 8 = .ok (.getfield 108, 3) := by decide +kernel
theorem dX8_isSort_11 : decode cX8_isSort 11 = .ok (.iconst 2, 1) := by decide +kernel
theorem dX8_isSort_12 : decode cX8_isSort 12 = .ok (.if_icmp .ne 19, 3) := by decide +kernel
theorem dX8_isSort_15 : decode cX8_isSort 15 = .ok (.aload_n 0, 1) := by decide +kernel
theorem dX8_isSort_16 : decode cX8_isSort 16 = .ok (.getfield 97, 3) := by decide +kernel
theorem dX8_isSort_19 : decode cX8_isSort 19 = .ok (.invokestatic 125, 3) := by decide +kernel
theorem dX8_isSort_22 : decode cX8_isSort 22 = .ok (.ldc 96, 2) := by decide +kernel
theorem dX8_isSort_24 : decode cX8_isSort 24 = .ok (.if_icmp .eq 7, 3) := by decide +kernel
theorem dX8_isSort_27 : decode cX8_isSort 27 = .ok (.iconst 1, 1) := by decide +kernel
theorem dX8_isSort_28 : decode cX8_isSort 28 = .ok (.goto 4, 3) := by decide +kernel
theorem dX8_isSort_31 : decode cX8_isSort 31 = .ok (.iconst 0, 1) := by decide +kernel
theorem dX8_isSort_32 : decode cX8_isSort 32 = .ok (.ireturn, 1) := by decide +kernel
theorem dX8_readPerson_0 : decode cX8_readPerson 0 = .ok (.aload_n 0, 1) := by decide +kernel
theorem dX8_readPerson_1 : decode cX8_readPerson 1 = .ok (.getfield 97, 3) := by decide +kernel
theorem dX8_readPerson_4 : decode cX8_readPerson 4 = .ok (.invokestatic 125, 3) := by decide +kernel
theorem dX8_readPerson_7 : decode cX8_readPerson 7 = .ok (.istore_n 1, 1) := by decide +kernel
theorem dX8_readPerson_8 : decode cX8_readPerson 8 = .ok (.aload_n 0, 1) := by decide +kernel
theorem dX8_readPerson_9 : decode cX8_readPerson 9 = .ok (.getfield 22, 3) := by decide +kernel
theorem dX8_readPerson_12 : decode cX8_readPerson 12 = .ok (.iconst 2, 1) := by decide +kernel
theorem dX8_readPerson_13 : decode cX8_readPerson 13 = .ok (.iaload, 1) := by decide +kernel
theorem dX8_readPerson_14 : decode cX8_readPerson 14 = .ok (.bipush 6, 2) := by decide +kernel
theorem dX8_readPerson_16 : decode cX8_readPerson 16 = .ok (.if_icmp .ne 8, 3) := by decide +kernel
theorem dX8_readPerson_19 : decode cX8_readPerson 19 = .ok (.aload_n 0, 1) := by decide +kernel
theorem dX8_readPerson_20 : decode cX8_readPerson 20 = .ok (.iconst 3, 1) := by decide +kernel
theorem dX8_readPerson_21 : decode cX8_readPerson 21 = .ok (.invokevirtual 111, 3) := by decide +kernel
theorem dX8_readPerson_24 : decode cX8_readPerson 24 = .ok (.aload_n 0, 1) := by decide +kernel
theorem dX8_readPerson_25 : decode cX8_readPerson 25 = .ok (.iconst 1, 1) := by decide +kernel
theorem dX8_readPerson_26 : decode cX8_readPerson 26 = .ok (.invokevirtual 118, 3) := by decide +kernel
theorem dX8_readPerson_29 : decode cX8_readPerson 29 = .ok (.aload_n 0, 1) := by decide +kernel
theorem dX8_readPerson_30 : decode cX8_readPerson 30 = .ok (.iconst 0, 1) := by decide +kernel
theorem dX8_readPerson_31 : decode cX8_readPerson 31 = .ok (.aload_n 0, 1) := by decide +kernel
theorem dX8_readPerson_32 : decode cX8_readPerson 32 = .ok (.getfield 22, 3) := by decide +kernel
theorem dX8_readPerson_35 : decode cX8_readPerson 35 = .ok (.iconst 0, 1) := by decide +kernel
theorem dX8_readPerson_36 : decode cX8_readPerson 36 = .ok (.iaload, 1) := by decide +kernel
theorem dX8_readPerson_37 : decode cX8_readPerson 37 = .ok (.iconst 1, 1) := by decide +kernel
theorem dX8_readPerson_38 : decode cX8_readPerson 38 = .ok (.isub, 1) := by decide +kernel
theorem dX8_readPerson_39 : decode cX8_readPerson 39 = .ok (.invokevirtual 128, 3) := by decide +kernel
theorem dX8_readPerson_42 : decode cX8_readPerson 42 = .ok (.istore_n 2, 1) := by decide +kernel
theorem dX8_readPerson_43 : decode cX8_readPerson 43 = .ok (.aload_n 0, 1) := by decide +kernel
theorem dX8_readPerson_44 : decode cX8_readPerson 44 = .ok (.bipush 44, 2) := by decide +kernel
theorem dX8_readPerson_46 : decode cX8_readPerson 46 = .ok (.invokevirtual 132, 3) := by decide +kernel
theorem dX8_readPerson_49 : decode cX8_readPerson 49 = .ok (.aload_n 0, 1) := by decide +kernel
theorem dX8_readPerson_50 : decode cX8_readPerson 50 = .ok (.iconst 0, 1) := by decide +kernel
theorem dX8_readPerson_51 : decode cX8_readPerson 51 = .ok (.aload_n 0, 1) := by decide +kernel
theorem dX8_readPerson_52 : decode cX8_readPerson 52 = .ok (.getfield 22, 3) := by decide +kernel
theorem dX8_readPerson_55 : decode cX8_readPerson 55 = .ok (.iconst 0, 1) := by decide +kernel
theorem dX8_readPerson_56 : decode cX8_readPerson 56 = .ok (.iaload, 1) := by decide +kernel
theorem dX8_readPerson_57 : decode cX8_readPerson 57 = .ok (.iconst 1, 1) := by decide +kernel
theorem dX8_readPerson_58 : decode cX8_readPerson 58 = .ok (.isub, 1) := by decide +kernel
theorem dX8_readPerson_59 : decode cX8_readPerson 59 = .ok (.invokevirtual 128, 3) := by decide +kernel
theorem dX8_readPerson_62 : decode cX8_readPerson 62 = .ok (.istore_n 3, 1) := by decide +kernel
theorem dX8_readPerson_63 : decode cX8_readPerson 63 = .ok (.aload_n 0, 1) := by decide +kernel
theorem dX8_readPerson_64 : decode cX8_readPerson 64 = .ok (.bipush 44, 2) := by decide +kernel
theorem dX8_readPerson_66 : decode cX8_readPerson 66 = .ok (.invokevirtual 132, 3) := by decide +kernel
theorem dX8_readPerson_69 : decode cX8_readPerson 69 = .ok (.aload_n 0, 1) := by decide +kernel
theorem dX8_readPerson_70 : decode cX8_readPerson 70 = .ok (.iconst 0, 1) := by decide +kernel
theorem dX8_readPerson_71 : decode cX8_readPerson 71 = .ok (.bipush 23, 2) := by decide +kernel
theorem dX8_readPerson_73 : decode cX8_readPerson 73 = .ok (.invokevirtual 128, 3) := by decide +kernel
theorem dX8_readPerson_76 : decode cX8_readPerson 76 = .ok (.istore 4, 2) := by decide +kernel
theorem dX8_readPerson_78 : decode cX8_readPerson 78 = .ok (.aload_n 0, 1) := by decide +kernel
theorem dX8_readPerson_79 : decode cX8_readPerson 79 = .ok (.bipush 59, 2) := by decide +kernel
theorem dX8_readPerson_81 : decode cX8_readPerson 81 = .ok (.invokevirtual 132, 3) := by decide +kernel
theorem dX8_readPerson_84 : decode cX8_readPerson 84 = .ok (.aload_n 0, 1) := by decide +kernel
theorem dX8_readPerson_85 : decode cX8_readPerson 85 = .ok (.getfield 84, 3) := by decide +kernel
theorem dX8_readPerson_88 : decode cX8_readPerson 88 = .ok (.ifCond .ne 65, 3) := by decide +kernel
theorem dX8_readPerson_91 : decode cX8_readPerson 91 = .ok (.bipush 17, 2) := by decide +kernel
theorem dX8_readPerson_93 : decode cX8_readPerson 93 = .ok (.iconst 4, 1) := by decide +kernel
theorem dX8_readPerson_94 : decode cX8_readPerson 94 = .ok (.aload_n 0, 1) := by decide +kernel
theorem dX8_readPerson_95 : decode cX8_readPerson 95 = .ok (.getfield 22, 3) := by decide +kernel
theorem dX8_readPerson_98 : decode cX8_readPerson 98 = .ok (.iconst 2, 1) := by decide +kernel
theorem dX8_readPerson_99 : decode cX8_readPerson 99 = .ok (.iaload, 1) := by decide +kernel
theorem dX8_readPerson_100 : decode cX8_readPerson 100 = .ok (.imul, 1) := by decide +kernel
theorem dX8_readPerson_101 : decode cX8_readPerson 101 = .ok (.iadd, 1) := by decide +kernel
theorem dX8_readPerson_102 : decode cX8_readPerson 102 = .ok (.istore 5, 2) := by decide +kernel
theorem dX8_readPerson_104 : decode cX8_readPerson 104 = .ok (.aload_n 0, 1) := by decide +kernel
theorem dX8_readPerson_105 : decode cX8_readPerson 105 = .ok (.getfield 22, 3) := by decide +kernel
theorem dX8_readPerson_108 : decode cX8_readPerson 108 = .ok (.iload 5, 2) := by decide +kernel
theorem dX8_readPerson_110 : decode cX8_readPerson 110 = .ok (.iload_n 1, 1) := by decide +kernel
theorem dX8_readPerson_111 : decode cX8_readPerson 111 = .ok (.iastore, 1) := by decide +kernel
theorem dX8_readPerson_112 : decode cX8_readPerson 112 = .ok (.aload_n 0, 1) := by decide +kernel
theorem dX8_readPerson_113 : decode cX8_readPerson 113 = .ok (.getfield 22, 3) := by decide +kernel
theorem dX8_readPerson_116 : decode cX8_readPerson 116 = .ok (.iload 5, 2) := by decide +kernel
theorem dX8_readPerson_118 : decode cX8_readPerson 118 = .ok (.iconst 1, 1) := by decide +kernel
theorem dX8_readPerson_119 : decode cX8_readPerson 119 = .ok (.iadd, 1) := by decide +kernel
theorem dX8_readPerson_120 : decode cX8_readPerson 120 = .ok (.iload_n 2, 1) := by decide +kernel
theorem dX8_readPerson_121 : decode cX8_readPerson 121 = .ok (.iastore, 1) := by decide +kernel
theorem dX8_readPerson_122 : decode cX8_readPerson 122 = .ok (.aload_n 0, 1) := by decide +kernel
theorem dX8_readPerson_123 : decode cX8_readPerson 123 = .ok (.getfield 22, 3) := by decide +kernel
theorem dX8_readPerson_126 : decode cX8_readPerson 126 = .ok (.iload 5, 2) := by decide +kernel
theorem dX8_readPerson_128 : decode cX8_readPerson 128 = .ok (.iconst 2, 1) := by decide +kernel
theorem dX8_readPerson_129 : decode cX8_readPerson 129 = .ok (.iadd, 1) := by decide +kernel
theorem dX8_readPerson_130 : decode cX8_readPerson 130 = .ok (.iload_n 3, 1) := by decide +kernel
theorem dX8_readPerson_131 : decode cX8_readPerson 131 = .ok (.iastore, 1) := by decide +kernel
theorem dX8_readPerson_132 : decode cX8_readPerson 132 = .ok (.aload_n 0, 1) := by decide +kernel
theorem dX8_readPerson_133 : decode cX8_readPerson 133 = .ok (.getfield 22, 3) := by decide +kernel
theorem dX8_readPerson_136 : decode cX8_readPerson 136 = .ok (.iload 5, 2) := by decide +kernel
theorem dX8_readPerson_138 : decode cX8_readPerson 138 = .ok (.iconst 3, 1) := by decide +kernel
theorem dX8_readPerson_139 : decode cX8_readPerson 139 = .ok (.iadd, 1) := by decide +kernel
theorem dX8_readPerson_140 : decode cX8_readPerson 140 = .ok (.iload 4, 2) := by decide +kernel
theorem dX8_readPerson_142 : decode cX8_readPerson 142 = .ok (.iastore, 1) := by decide +kernel
theorem dX8_readPerson_143 : decode cX8_readPerson 143 = .ok (.aload_n 0, 1) := by decide +kernel
theorem dX8_readPerson_144 : decode cX8_readPerson 144 = .ok (.getfield 22, 3) := by decide +kernel
theorem dX8_readPerson_147 : decode cX8_readPerson 147 = .ok (.iconst 2, 1) := by decide +kernel
theorem dX8_readPerson_148 : decode cX8_readPerson 148 = .ok (.dup2, 1) := by decide +kernel
theorem dX8_readPerson_149 : decode cX8_readPerson 149 = .ok (.iaload, 1) := by decide +kernel
theorem dX8_readPerson_150 : decode cX8_readPerson 150 = .ok (.iconst 1, 1) := by decide +kernel
theorem dX8_readPerson_151 : decode cX8_readPerson 151 = .ok (.iadd, 1) := by decide +kernel
theorem dX8_readPerson_152 : decode cX8_readPerson 152 = .ok (.iastore, 1) := by decide +kernel
theorem dX8_readPerson_153 : decode cX8_readPerson 153 = .ok (.return_, 1) := by decide +kernel
theorem dX8_town_0 : decode cX8_town 0 = .ok (.aload_n 0, 1) := by decide +kernel
theorem dX8_town_1 : decode cX8_town 1 = .ok (.iconst 0, 1) := by decide +kernel
theorem dX8_town_2 : decode cX8_town 2 = .ok (.putfield 53, 3) := by decide +kernel
theorem dX8_town_5 : decode cX8_town 5 = .ok (.aload_n 0, 1) := by decide +kernel
theorem dX8_town_6 : decode cX8_town 6 = .ok (.invokevirtual 135, 3) := by decide +kernel
theorem dX8_town_9 : decode cX8_town 9 = .ok (.iconst 0, 1) := by decide +kernel
theorem dX8_town_10 : decode cX8_town 10 = .ok (.istore_n 1, 1) := by decide +kernel
theorem dX8_town_11 : decode cX8_town 11 = .ok (.iload_n 1, 1) := by decide +kernel
theorem dX8_town_12 : decode cX8_town 12 = .ok (.bipush 41, 2) := by decide +kernel
theorem dX8_town_14 : decode cX8_town 14 = .ok (.if_icmp .ge 16, 3) := by decide +kernel
theorem dX8_town_17 : decode cX8_town 17 = .ok (.aload_n 0, 1) := by decide +kernel
theorem dX8_town_18 : decode cX8_town 18 = .ok (.getfield 22, 3) := by decide +kernel
theorem dX8_town_21 : decode cX8_town 21 = .ok (.iload_n 1, 1) := by decide +kernel
theorem dX8_town_22 : decode cX8_town 22 = .ok (.iconst 0, 1) := by decide +kernel
theorem dX8_town_23 : decode cX8_town 23 = .ok (.iastore, 1) := by decide +kernel
theorem dX8_town_24 : decode cX8_town 24 = .ok (.iinc 1 1, 3) := by decide +kernel
theorem dX8_town_27 : decode cX8_town 27 = .ok (.goto (-16), 3) := by decide +kernel
theorem dX8_town_30 : decode cX8_town 30 = .ok (.aload_n 0, 1) := by decide +kernel
theorem dX8_town_31 : decode cX8_town 31 = .ok (.aload_n 0, 1) := by decide +kernel
theorem dX8_town_32 : decode cX8_town 32 = .ok (.bipush 116, 2) := by decide +kernel
theorem dX8_town_34 : decode cX8_town 34 = .ok (.invokevirtual 138, 3) := by decide +kernel
theorem dX8_town_37 : decode cX8_town 37 = .ok (.invokevirtual 118, 3) := by decide +kernel
theorem dX8_town_40 : decode cX8_town 40 = .ok (.aload_n 0, 1) := by decide +kernel
theorem dX8_town_41 : decode cX8_town 41 = .ok (.getfield 22, 3) := by decide +kernel
theorem dX8_town_44 : decode cX8_town 44 = .ok (.iconst 0, 1) := by decide +kernel
theorem dX8_town_45 : decode cX8_town 45 = .ok (.aload_n 0, 1) := by decide +kernel
theorem dX8_town_46 : decode cX8_town 46 = .ok (.iconst 2, 1) := by decide +kernel
theorem dX8_town_47 : decode cX8_town 47 = .ok (.bipush 9, 2) := by decide +kernel
theorem dX8_town_49 : decode cX8_town 49 = .ok (.invokevirtual 128, 3) := by decide +kernel
theorem dX8_town_52 : decode cX8_town 52 = .ok (.iastore, 1) := by decide +kernel
theorem dX8_town_53 : decode cX8_town 53 = .ok (.aload_n 0, 1) := by decide +kernel
theorem dX8_town_54 : decode cX8_town 54 = .ok (.bipush 44, 2) := by decide +kernel
theorem dX8_town_56 : decode cX8_town 56 = .ok (.invokevirtual 132, 3) := by decide +kernel
theorem dX8_town_59 : decode cX8_town 59 = .ok (.aload_n 0, 1) := by decide +kernel
theorem dX8_town_60 : decode cX8_town 60 = .ok (.getfield 22, 3) := by decide +kernel
theorem dX8_town_63 : decode cX8_town 63 = .ok (.iconst 1, 1) := by decide +kernel
theorem dX8_town_64 : decode cX8_town 64 = .ok (.aload_n 0, 1) := by decide +kernel
theorem dX8_town_65 : decode cX8_town 65 = .ok (.iconst 4, 1) := by decide +kernel
theorem dX8_town_66 : decode cX8_town 66 = .ok (.bipush 24, 2) := by decide +kernel
theorem dX8_town_68 : decode cX8_town 68 = .ok (.invokevirtual 128, 3) := by decide +kernel
theorem dX8_town_71 : decode cX8_town 71 = .ok (.iastore, 1) := by decide +kernel
theorem dX8_town_72 : decode cX8_town 72 = .ok (.aload_n 0, 1) := by decide +kernel
theorem dX8_town_73 : decode cX8_town 73 = .ok (.bipush 59, 2) := by decide +kernel
theorem dX8_town_75 : decode cX8_town 75 = .ok (.invokevirtual 132, 3) := by decide +kernel
theorem dX8_town_78 : decode cX8_town 78 = .ok (.aload_n 0, 1) := by decide +kernel
theorem dX8_town_79 : decode cX8_town 79 = .ok (.invokevirtual 141, 3) := by decide +kernel
theorem dX8_town_82 : decode cX8_town 82 = .ok (.ifCond .ne 8, 3) := by decide +kernel
theorem dX8_town_85 : decode cX8_town 85 = .ok (.aload_n 0, 1) := by decide +kernel
theorem dX8_town_86 : decode cX8_town 86 = .ok (.iconst 1, 1) := by decide +kernel
theorem dX8_town_87 : decode cX8_town 87 = .ok (.invokevirtual 111, 3) := by decide +kernel
theorem dX8_town_90 : decode cX8_town 90 = .ok (.aload_n 0, 1) := by decide +kernel
theorem dX8_town_91 : decode cX8_town 91 = .ok (.invokevirtual 141, 3) := by decide +kernel
theorem dX8_town_94 : decode cX8_town 94 = .ok (.ifCond .eq 10, 3) := by decide +kernel
theorem dX8_town_97 : decode cX8_town 97 = .ok (.aload_n 0, 1) := by decide +kernel
theorem dX8_town_98 : decode cX8_town 98 = .ok (.invokevirtual 145, 3) := by decide +kernel
theorem dX8_town_101 : decode cX8_town 101 = .ok (.goto (-11), 3) := by decide +kernel
theorem dX8_town_104 : decode cX8_town 104 = .ok (.aload_n 0, 1) := by decide +kernel
theorem dX8_town_105 : decode cX8_town 105 = .ok (.invokevirtual 148, 3) := by decide +kernel
theorem dX8_town_108 : decode cX8_town 108 = .ok (.ifCond .eq 11, 3) := by decide +kernel
theorem dX8_town_111 : decode cX8_town 111 = .ok (.ldc 151, 2) := by decide +kernel
theorem dX8_town_113 : decode cX8_town 113 = .ok (.aload_n 0, 1) := by decide +kernel
theorem dX8_town_114 : decode cX8_town 114 = .ok (.getfield 90, 3) := by decide +kernel
theorem dX8_town_117 : decode cX8_town 117 = .ok (.isub, 1) := by decide +kernel
theorem dX8_town_118 : decode cX8_town 118 = .ok (.ireturn, 1) := by decide +kernel
theorem dX8_town_119 : decode cX8_town 119 = .ok (.aload_n 0, 1) := by decide +kernel
theorem dX8_town_120 : decode cX8_town 120 = .ok (.iconst 0, 1) := by decide +kernel
theorem dX8_town_121 : decode cX8_town 121 = .ok (.putfield 152, 3) := by decide +kernel
theorem dX8_town_124 : decode cX8_town 124 = .ok (.iconst 0, 1) := by decide +kernel
theorem dX8_town_125 : decode cX8_town 125 = .ok (.istore_n 1, 1) := by decide +kernel
theorem dX8_town_126 : decode cX8_town 126 = .ok (.iload_n 1, 1) := by decide +kernel
theorem dX8_town_127 : decode cX8_town 127 = .ok (.bipush 41, 2) := by decide +kernel
theorem dX8_town_129 : decode cX8_town 129 = .ok (.if_icmp .ge 21, 3) := by decide +kernel
theorem dX8_town_132 : decode cX8_town 132 = .ok (.aload_n 0, 1) := by decide +kernel
theorem dX8_town_133 : decode cX8_town 133 = .ok (.getfield 19, 3) := by decide +kernel
theorem dX8_town_136 : decode cX8_town 136 = .ok (.iload_n 1, 1) := by decide +kernel
theorem dX8_town_137 : decode cX8_town 137 = .ok (.aload_n 0, 1) := by decide +kernel
theorem dX8_town_138 : decode cX8_town 138 = .ok (.getfield 22, 3) := by decide +kernel
theorem dX8_town_141 : decode cX8_town 141 = .ok (.iload_n 1, 1) := by decide +kernel
theorem dX8_town_142 : decode cX8_town 142 = .ok (.iaload, 1) := by decide +kernel
theorem dX8_town_143 : decode cX8_town 143 = .ok (.iastore, 1) := by decide +kernel
theorem dX8_town_144 : decode cX8_town 144 = .ok (.iinc 1 1, 3) := by decide +kernel
theorem dX8_town_147 : decode cX8_town 147 = .ok (.goto (-21), 3) := by decide +kernel
theorem dX8_town_150 : decode cX8_town 150 = .ok (.aload_n 0, 1) := by decide +kernel
theorem dX8_town_151 : decode cX8_town 151 = .ok (.getfield 19, 3) := by decide +kernel
theorem dX8_town_154 : decode cX8_town 154 = .ok (.iconst 2, 1) := by decide +kernel
theorem dX8_town_155 : decode cX8_town 155 = .ok (.iaload, 1) := by decide +kernel
theorem dX8_town_156 : decode cX8_town 156 = .ok (.ireturn, 1) := by decide +kernel
theorem dX8_isThere_0 : decode cX8_isThere 0 = .ok (.aload_n 0, 1) := by decide +kernel
theorem dX8_isThere_1 : decode cX8_isThere 1 = .ok (.getfield 19, 3) := by decide +kernel
theorem dX8_isThere_4 : decode cX8_isThere 4 = .ok (.iconst 0, 1) := by decide +kernel
theorem dX8_isThere_5 : decode cX8_isThere 5 = .ok (.iaload, 1) := by decide +kernel
theorem dX8_isThere_6 : decode cX8_isThere 6 = .ok (.ifCond .le 7, 3) := by decide +kernel
theorem dX8_isThere_9 : decode cX8_isThere 9 = .ok (.iconst 1, 1) := by decide +kernel
theorem dX8_isThere_10 : decode cX8_isThere 10 = .ok (.goto 4, 3) := by decide +kernel
theorem dX8_isThere_13 : decode cX8_isThere 13 = .ok (.iconst 0, 1) := by decide +kernel
theorem dX8_isThere_14 : decode cX8_isThere 14 = .ok (.ireturn, 1) := by decide +kernel
theorem dX8_isPerson_0 : decode cX8_isPerson 0 = .ok (.iload_n 1, 1) := by decide +kernel
theorem dX8_isPerson_1 : decode cX8_isPerson 1 = .ok (.i2l, 1) := by decide +kernel
theorem dX8_isPerson_2 : decode cX8_isPerson 2 = .ok (.lconst 0, 1) := by decide +kernel
theorem dX8_isPerson_3 : decode cX8_isPerson 3 = .ok (.aload_n 0, 1) := by decide +kernel
theorem dX8_isPerson_4 : decode cX8_isPerson 4 = .ok (.getfield 19, 3) := by decide +kernel
theorem dX8_isPerson_7 : decode cX8_isPerson 7 = .ok (.iconst 2, 1) := by decide +kernel
theorem dX8_isPerson_8 : decode cX8_isPerson 8 = .ok (.iaload, 1) := by decide +kernel
theorem dX8_isPerson_9 : decode cX8_isPerson 9 = .ok (.iconst 1, 1) := by decide +kernel
theorem dX8_isPerson_10 : decode cX8_isPerson 10 = .ok (.isub, 1) := by decide +kernel
theorem dX8_isPerson_11 : decode cX8_isPerson 11 = .ok (.i2l, 1) := by decide +kernel
theorem dX8_isPerson_12 : decode cX8_isPerson 12 = .ok (.invokestatic 63, 3) := by decide +kernel
theorem dX8_isPerson_15 : decode cX8_isPerson 15 = .ok (.ireturn, 1) := by decide +kernel
theorem dX8_isLane_0 : decode cX8_isLane 0 = .ok (.iload_n 1, 1) := by decide +kernel
theorem dX8_isLane_1 : decode cX8_isLane 1 = .ok (.i2l, 1) := by decide +kernel
theorem dX8_isLane_2 : decode cX8_isLane 2 = .ok (.lconst 0, 1) := by decide +kernel
theorem dX8_isLane_3 : decode cX8_isLane 3 = .ok (.aload_n 0, 1) := by decide +kernel
theorem dX8_isLane_4 : decode cX8_isLane 4 = .ok (.getfield 19, 3) := by decide +kernel
theorem dX8_isLane_7 : decode cX8_isLane 7 = .ok (.iconst 0, 1) := by decide +kernel
theorem dX8_isLane_8 : decode cX8_isLane 8 = .ok (.iaload, 1) := by decide +kernel
theorem dX8_isLane_9 : decode cX8_isLane 9 = .ok (.iconst 1, 1) := by decide +kernel
theorem dX8_isLane_10 : decode cX8_isLane 10 = .ok (.isub, 1) := by decide +kernel
theorem dX8_isLane_11 : decode cX8_isLane 11 = .ok (.i2l, 1) := by decide +kernel
theorem dX8_isLane_12 : decode cX8_isLane 12 = .ok (.invokestatic 63, 3) := by decide +kernel
theorem dX8_isLane_15 : decode cX8_isLane 15 = .ok (.ireturn, 1) := by decide +kernel
theorem dX8_isPosted_0 : decode cX8_isPosted 0 = .ok (.aload_n 0, 1) := by decide +kernel
theorem dX8_isPosted_1 : decode cX8_isPosted 1 = .ok (.invokevirtual 155, 3) := by decide +kernel
theorem dX8_isPosted_4 : decode cX8_isPosted 4 = .ok (.ifCond .eq 19, 3) := by decide +kernel
theorem dX8_isPosted_7 : decode cX8_isPosted 7 = .ok (.iload_n 1, 1) := by decide +kernel
theorem dX8_isPosted_8 : decode cX8_isPosted 8 = .ok (.i2l, 1) := by decide +kernel
theorem dX8_isPosted_9 : decode cX8_isPosted 9 = .ok (.lconst 0, 1) := by decide +kernel
theorem dX8_isPosted_10 : decode cX8_isPosted 10 = .ok (.ldc2_w 158, 3) := by decide +kernel
theorem dX8_isPosted_13 : decode cX8_isPosted 13 = .ok (.invokestatic 63, 3) := by decide +kernel
theorem dX8_isPosted_16 : decode cX8_isPosted 16 = .ok (.ifCond .eq 7, 3) := by decide +kernel
theorem dX8_isPosted_19 : decode cX8_isPosted 19 = .ok (.iconst 1, 1) := by decide +kernel
theorem dX8_isPosted_20 : decode cX8_isPosted 20 = .ok (.goto 4, 3) := by decide +kernel
theorem dX8_isPosted_23 : decode cX8_isPosted 23 = .ok (.iconst 0, 1) := by decide +kernel
theorem dX8_isPosted_24 : decode cX8_isPosted 24 = .ok (.ireturn, 1) := by decide +kernel
theorem dX8_bits_0 : decode cX8_bits 0 = .ok (.iconst 0, 1) := by decide +kernel
theorem dX8_bits_1 : decode cX8_bits 1 = .ok (.istore_n 1, 1) := by decide +kernel
theorem dX8_bits_2 : decode cX8_bits 2 = .ok (.iconst 0, 1) := by decide +kernel
theorem dX8_bits_3 : decode cX8_bits 3 = .ok (.istore_n 2, 1) := by decide +kernel
theorem dX8_bits_4 : decode cX8_bits 4 = .ok (.iload_n 2, 1) := by decide +kernel
theorem dX8_bits_5 : decode cX8_bits 5 = .ok (.bipush 9, 2) := by decide +kernel
theorem dX8_bits_7 : decode cX8_bits 7 = .ok (.if_icmp .ge 17, 3) := by decide +kernel
theorem dX8_bits_10 : decode cX8_bits 10 = .ok (.iload_n 1, 1) := by decide +kernel
theorem dX8_bits_11 : decode cX8_bits 11 = .ok (.iload_n 0, 1) := by decide +kernel
theorem dX8_bits_12 : decode cX8_bits 12 = .ok (.iload_n 2, 1) := by decide +kernel
theorem dX8_bits_13 : decode cX8_bits 13 = .ok (.ishr, 1) := by decide +kernel
theorem dX8_bits_14 : decode cX8_bits 14 = .ok (.iconst 1, 1) := by decide +kernel
theorem dX8_bits_15 : decode cX8_bits 15 = .ok (.iand, 1) := by decide +kernel
theorem dX8_bits_16 : decode cX8_bits 16 = .ok (.iadd, 1) := by decide +kernel
theorem dX8_bits_17 : decode cX8_bits 17 = .ok (.istore_n 1, 1) := by decide +kernel
theorem dX8_bits_18 : decode cX8_bits 18 = .ok (.iinc 2 1, 3) := by decide +kernel
theorem dX8_bits_21 : decode cX8_bits 21 = .ok (.goto (-17), 3) := by decide +kernel
theorem dX8_bits_24 : decode cX8_bits 24 = .ok (.iload_n 1, 1) := by decide +kernel
theorem dX8_bits_25 : decode cX8_bits 25 = .ok (.ireturn, 1) := by decide +kernel
theorem dX8_has_0 : decode cX8_has 0 = .ok (.iload_n 0, 1) := by decide +kernel
theorem dX8_has_1 : decode cX8_has 1 = .ok (.iload_n 1, 1) := by decide +kernel
theorem dX8_has_2 : decode cX8_has 2 = .ok (.ishr, 1) := by decide +kernel
theorem dX8_has_3 : decode cX8_has 3 = .ok (.iconst 1, 1) := by decide +kernel
theorem dX8_has_4 : decode cX8_has 4 = .ok (.iand, 1) := by decide +kernel
theorem dX8_has_5 : decode cX8_has 5 = .ok (.iconst 1, 1) := by decide +kernel
theorem dX8_has_6 : decode cX8_has 6 = .ok (.if_icmp .ne 7, 3) := by decide +kernel
theorem dX8_has_9 : decode cX8_has 9 = .ok (.iconst 1, 1) := by decide +kernel
theorem dX8_has_10 : decode cX8_has 10 = .ok (.goto 4, 3) := by decide +kernel
theorem dX8_has_13 : decode cX8_has 13 = .ok (.iconst 0, 1) := by decide +kernel
theorem dX8_has_14 : decode cX8_has 14 = .ok (.ireturn, 1) := by decide +kernel
theorem dX8_of_0 : decode cX8_of 0 = .ok (.aload_n 0, 1) := by decide +kernel
theorem dX8_of_1 : decode cX8_of 1 = .ok (.bipush 17, 2) := by decide +kernel
theorem dX8_of_3 : decode cX8_of 3 = .ok (.iconst 4, 1) := by decide +kernel
theorem dX8_of_4 : decode cX8_of 4 = .ok (.iload_n 1, 1) := by decide +kernel
theorem dX8_of_5 : decode cX8_of 5 = .ok (.imul, 1) := by decide +kernel
theorem dX8_of_6 : decode cX8_of 6 = .ok (.iadd, 1) := by decide +kernel
theorem dX8_of_7 : decode cX8_of 7 = .ok (.iload_n 2, 1) := by decide +kernel
theorem dX8_of_8 : decode cX8_of 8 = .ok (.iadd, 1) := by decide +kernel
theorem dX8_of_9 : decode cX8_of 9 = .ok (.iaload, 1) := by decide +kernel
theorem dX8_of_10 : decode cX8_of 10 = .ok (.ireturn, 1) := by decide +kernel
theorem dX8_its_0 : decode cX8_its 0 = .ok (.aload_n 0, 1) := by decide +kernel
theorem dX8_its_1 : decode cX8_its 1 = .ok (.iconst 5, 1) := by decide +kernel
theorem dX8_its_2 : decode cX8_its 2 = .ok (.iconst 3, 1) := by decide +kernel
theorem dX8_its_3 : decode cX8_its 3 = .ok (.iload_n 1, 1) := by decide +kernel
theorem dX8_its_4 : decode cX8_its 4 = .ok (.imul, 1) := by decide +kernel
theorem dX8_its_5 : decode cX8_its 5 = .ok (.iadd, 1) := by decide +kernel
theorem dX8_its_6 : decode cX8_its 6 = .ok (.iload_n 2, 1) := by decide +kernel
theorem dX8_its_7 : decode cX8_its 7 = .ok (.iadd, 1) := by decide +kernel
theorem dX8_its_8 : decode cX8_its 8 = .ok (.iaload, 1) := by decide +kernel
theorem dX8_its_9 : decode cX8_its 9 = .ok (.ireturn, 1) := by decide +kernel
theorem dX8_isOut_0 : decode cX8_isOut 0 = .ok (.aload_n 0, 1) := by decide +kernel
theorem dX8_isOut_1 : decode cX8_isOut 1 = .ok (.iload_n 1, 1) := by decide +kernel
theorem dX8_isOut_2 : decode cX8_isOut 2 = .ok (.iconst 0, 1) := by decide +kernel
theorem dX8_isOut_3 : decode cX8_isOut 3 = .ok (.invokestatic 160, 3) := by decide +kernel
theorem dX8_isOut_6 : decode cX8_isOut 6 = .ok (.iconst 1, 1) := by decide +kernel
theorem dX8_isOut_7 : decode cX8_isOut 7 = .ok (.if_icmp .ne 7, 3) := by decide +kernel
theorem dX8_isOut_10 : decode cX8_isOut 10 = .ok (.iconst 1, 1) := by decide +kernel
theorem dX8_isOut_11 : decode cX8_isOut 11 = .ok (.goto 4, 3) := by decide +kernel
theorem dX8_isOut_14 : decode cX8_isOut 14 = .ok (.iconst 0, 1) := by decide +kernel
theorem dX8_isOut_15 : decode cX8_isOut 15 = .ok (.ireturn, 1) := by decide +kernel
theorem dX8_isDone_0 : decode cX8_isDone 0 = .ok (.aload_n 0, 1) := by decide +kernel
theorem dX8_isDone_1 : decode cX8_isDone 1 = .ok (.iload_n 1, 1) := by decide +kernel
theorem dX8_isDone_2 : decode cX8_isDone 2 = .ok (.invokestatic 164, 3) := by decide +kernel
theorem dX8_isDone_5 : decode cX8_isDone 5 = .ok (.ifCond .eq 22, 3) := by decide +kernel
theorem dX8_isDone_8 : decode cX8_isDone 8 = .ok (.aload_n 0, 1) := by decide +kernel
theorem dX8_isDone_9 : decode cX8_isDone 9 = .ok (.iload_n 1, 1) := by decide +kernel
theorem dX8_isDone_10 : decode cX8_isDone 10 = .ok (.iconst 1, 1) := by decide +kernel
theorem dX8_isDone_11 : decode cX8_isDone 11 = .ok (.invokestatic 160, 3) := by decide +kernel
theorem dX8_isDone_14 : decode cX8_isDone 14 = .ok (.aload_n 0, 1) := by decide +kernel
theorem dX8_isDone_15 : decode cX8_isDone 15 = .ok (.iload_n 1, 1) := by decide +kernel
theorem dX8_isDone_16 : decode cX8_isDone 16 = .ok (.iconst 2, 1) := by decide +kernel
theorem dX8_isDone_17 : decode cX8_isDone 17 = .ok (.invokestatic 160, 3) := by decide +kernel
theorem dX8_isDone_20 : decode cX8_isDone 20 = .ok (.if_icmp .ne 7, 3) := by decide +kernel
theorem dX8_isDone_23 : decode cX8_isDone 23 = .ok (.iconst 1, 1) := by decide +kernel
theorem dX8_isDone_24 : decode cX8_isDone 24 = .ok (.goto 4, 3) := by decide +kernel
theorem dX8_isDone_27 : decode cX8_isDone 27 = .ok (.iconst 0, 1) := by decide +kernel
theorem dX8_isDone_28 : decode cX8_isDone 28 = .ok (.ireturn, 1) := by decide +kernel
theorem dX8_place_0 : decode cX8_place 0 = .ok (.aload_n 0, 1) := by decide +kernel
theorem dX8_place_1 : decode cX8_place 1 = .ok (.iload_n 1, 1) := by decide +kernel
theorem dX8_place_2 : decode cX8_place 2 = .ok (.iconst 1, 1) := by decide +kernel
theorem dX8_place_3 : decode cX8_place 3 = .ok (.invokestatic 168, 3) := by decide +kernel
theorem dX8_place_6 : decode cX8_place 6 = .ok (.istore_n 3, 1) := by decide +kernel
theorem dX8_place_7 : decode cX8_place 7 = .ok (.aload_n 0, 1) := by decide +kernel
theorem dX8_place_8 : decode cX8_place 8 = .ok (.iload_n 1, 1) := by decide +kernel
theorem dX8_place_9 : decode cX8_place 9 = .ok (.iconst 2, 1) := by decide +kernel
theorem dX8_place_10 : decode cX8_place 10 = .ok (.invokestatic 168, 3) := by decide +kernel
theorem dX8_place_13 : decode cX8_place 13 = .ok (.istore 4, 2) := by decide +kernel
theorem dX8_place_15 : decode cX8_place 15 = .ok (.aload_n 0, 1) := by decide +kernel
theorem dX8_place_16 : decode cX8_place 16 = .ok (.iconst 4, 1) := by decide +kernel
theorem dX8_place_17 : decode cX8_place 17 = .ok (.iaload, 1) := by decide +kernel
theorem dX8_place_18 : decode cX8_place 18 = .ok (.iload_n 1, 1) := by decide +kernel
theorem dX8_place_19 : decode cX8_place 19 = .ok (.invokestatic 171, 3) := by decide +kernel
theorem dX8_place_22 : decode cX8_place 22 = .ok (.ifCond .eq 5, 3) := by decide +kernel
theorem dX8_place_25 : decode cX8_place 25 = .ok (.iload_n 3, 1) := by decide +kernel
theorem dX8_place_26 : decode cX8_place 26 = .ok (.ireturn, 1) := by decide +kernel
theorem dX8_place_27 : decode cX8_place 27 = .ok (.aload_n 0, 1) := by decide +kernel
theorem dX8_place_28 : decode cX8_place 28 = .ok (.iload_n 1, 1) := by decide +kernel
theorem dX8_place_29 : decode cX8_place 29 = .ok (.iconst 0, 1) := by decide +kernel
theorem dX8_place_30 : decode cX8_place 30 = .ok (.invokestatic 168, 3) := by decide +kernel
theorem dX8_place_33 : decode cX8_place 33 = .ok (.istore 5, 2) := by decide +kernel
theorem dX8_place_35 : decode cX8_place 35 = .ok (.iload_n 2, 1) := by decide +kernel
theorem dX8_place_36 : decode cX8_place 36 = .ok (.aload_n 0, 1) := by decide +kernel
theorem dX8_place_37 : decode cX8_place 37 = .ok (.iconst 1, 1) := by decide +kernel
theorem dX8_place_38 : decode cX8_place 38 = .ok (.iaload, 1) := by decide +kernel
theorem dX8_place_39 : decode cX8_place 39 = .ok (.irem, 1) := by decide +kernel
theorem dX8_place_40 : decode cX8_place 40 = .ok (.istore 6, 2) := by decide +kernel
theorem dX8_place_42 : decode cX8_place 42 = .ok (.iload_n 2, 1) := by decide +kernel
theorem dX8_place_43 : decode cX8_place 43 = .ok (.aload_n 0, 1) := by decide +kernel
theorem dX8_place_44 : decode cX8_place 44 = .ok (.iconst 1, 1) := by decide +kernel
theorem dX8_place_45 : decode cX8_place 45 = .ok (.iaload, 1) := by decide +kernel
theorem dX8_place_46 : decode cX8_place 46 = .ok (.idiv, 1) := by decide +kernel
theorem dX8_place_47 : decode cX8_place 47 = .ok (.istore 7, 2) := by decide +kernel
theorem dX8_place_49 : decode cX8_place 49 = .ok (.iload 6, 2) := by decide +kernel
theorem dX8_place_51 : decode cX8_place 51 = .ok (.aload_n 0, 1) := by decide +kernel
theorem dX8_place_52 : decode cX8_place 52 = .ok (.iload_n 1, 1) := by decide +kernel
theorem dX8_place_53 : decode cX8_place 53 = .ok (.iconst 3, 1) := by decide +kernel
theorem dX8_place_54 : decode cX8_place 54 = .ok (.invokestatic 168, 3) := by decide +kernel
theorem dX8_place_57 : decode cX8_place 57 = .ok (.if_icmp .le 15, 3) := by decide +kernel
theorem dX8_place_60 : decode cX8_place 60 = .ok (.iload 6, 2) := by decide +kernel
theorem dX8_place_62 : decode cX8_place 62 = .ok (.aload_n 0, 1) := by decide +kernel
theorem dX8_place_63 : decode cX8_place 63 = .ok (.iload_n 1, 1) := by decide +kernel
theorem dX8_place_64 : decode cX8_place 64 = .ok (.iconst 3, 1) := by decide +kernel
theorem dX8_place_65 : decode cX8_place 65 = .ok (.invokestatic 168, 3) := by decide +kernel
theorem dX8_place_68 : decode cX8_place 68 = .ok (.isub, 1) := by decide +kernel
theorem dX8_place_69 : decode cX8_place 69 = .ok (.goto 4, 3) := by decide +kernel
theorem dX8_place_72 : decode cX8_place 72 = .ok (.iconst 0, 1) := by decide +kernel
theorem dX8_place_73 : decode cX8_place 73 = .ok (.istore 8, 2) := by decide +kernel
theorem dX8_place_75 : decode cX8_place 75 = .ok (.iload 5, 2) := by decide +kernel
theorem dX8_place_77 : decode cX8_place 77 = .ok (.iconst 3, 1) := by decide +kernel
theorem dX8_place_78 : decode cX8_place 78 = .ok (.if_icmp .ne 10, 3) := by decide +kernel
theorem dX8_place_81 : decode cX8_place 81 = .ok (.iload 8, 2) := by decide +kernel
theorem dX8_place_83 : decode cX8_place 83 = .ok (.iconst 2, 1) := by decide +kernel
theorem dX8_place_84 : decode cX8_place 84 = .ok (.idiv, 1) := by decide +kernel
theorem dX8_place_85 : decode cX8_place 85 = .ok (.goto 36, 3) := by decide +kernel
theorem dX8_place_88 : decode cX8_place 88 = .ok (.iload 5, 2) := by decide +kernel
theorem dX8_place_90 : decode cX8_place 90 = .ok (.iconst 4, 1) := by decide +kernel
theorem dX8_place_91 : decode cX8_place 91 = .ok (.if_icmp .lt 15, 3) := by decide +kernel
theorem dX8_place_94 : decode cX8_place 94 = .ok (.iload 7, 2) := by decide +kernel
theorem dX8_place_96 : decode cX8_place 96 = .ok (.iconst 2, 1) := by decide +kernel
theorem dX8_place_97 : decode cX8_place 97 = .ok (.irem, 1) := by decide +kernel
theorem dX8_place_98 : decode cX8_place 98 = .ok (.iconst 1, 1) := by decide +kernel
theorem dX8_place_99 : decode cX8_place 99 = .ok (.if_icmp .ne 7, 3) := by decide +kernel
theorem dX8_place_102 : decode cX8_place 102 = .ok (.iconst 0, 1) := by decide +kernel
theorem dX8_place_103 : decode cX8_place 103 = .ok (.goto 18, 3) := by decide +kernel
theorem dX8_place_106 : decode cX8_place 106 = .ok (.iload 5, 2) := by decide +kernel
theorem dX8_place_108 : decode cX8_place 108 = .ok (.iconst 5, 1) := by decide +kernel
theorem dX8_place_109 : decode cX8_place 109 = .ok (.if_icmp .ne 10, 3) := by decide +kernel
theorem dX8_place_112 : decode cX8_place 112 = .ok (.iconst 2, 1) := by decide +kernel
theorem dX8_place_113 : decode cX8_place 113 = .ok (.iload 8, 2) := by decide +kernel
theorem dX8_place_115 : decode cX8_place 115 = .ok (.imul, 1) := by decide +kernel
theorem dX8_place_116 : decode cX8_place 116 = .ok (.goto 5, 3) := by decide +kernel
theorem dX8_place_119 : decode cX8_place 119 = .ok (.iload 8, 2) := by decide +kernel
theorem dX8_place_121 : decode cX8_place 121 = .ok (.istore 8, 2) := by decide +kernel
theorem dX8_place_123 : decode cX8_place 123 = .ok (.iload 4, 2) := by decide +kernel
theorem dX8_place_125 : decode cX8_place 125 = .ok (.iload_n 3, 1) := by decide +kernel
theorem dX8_place_126 : decode cX8_place 126 = .ok (.if_icmp .le 10, 3) := by decide +kernel
theorem dX8_place_129 : decode cX8_place 129 = .ok (.iload 4, 2) := by decide +kernel
theorem dX8_place_131 : decode cX8_place 131 = .ok (.iload_n 3, 1) := by decide +kernel
theorem dX8_place_132 : decode cX8_place 132 = .ok (.isub, 1) := by decide +kernel
theorem dX8_place_133 : decode cX8_place 133 = .ok (.goto 7, 3) := by decide +kernel
theorem dX8_place_136 : decode cX8_place 136 = .ok (.iload_n 3, 1) := by decide +kernel
theorem dX8_place_137 : decode cX8_place 137 = .ok (.iload 4, 2) := by decide +kernel
theorem dX8_place_139 : decode cX8_place 139 = .ok (.isub, 1) := by decide +kernel
theorem dX8_place_140 : decode cX8_place 140 = .ok (.istore 9, 2) := by decide +kernel
theorem dX8_place_142 : decode cX8_place 142 = .ok (.iload 8, 2) := by decide +kernel
theorem dX8_place_144 : decode cX8_place 144 = .ok (.iload 9, 2) := by decide +kernel
theorem dX8_place_146 : decode cX8_place 146 = .ok (.if_icmp .le 8, 3) := by decide +kernel
theorem dX8_place_149 : decode cX8_place 149 = .ok (.iload 9, 2) := by decide +kernel
theorem dX8_place_151 : decode cX8_place 151 = .ok (.goto 5, 3) := by decide +kernel
theorem dX8_place_154 : decode cX8_place 154 = .ok (.iload 8, 2) := by decide +kernel
theorem dX8_place_156 : decode cX8_place 156 = .ok (.istore 8, 2) := by decide +kernel
theorem dX8_place_158 : decode cX8_place 158 = .ok (.iload 4, 2) := by decide +kernel
theorem dX8_place_160 : decode cX8_place 160 = .ok (.iload_n 3, 1) := by decide +kernel
theorem dX8_place_161 : decode cX8_place 161 = .ok (.if_icmp .le 10, 3) := by decide +kernel
theorem dX8_place_164 : decode cX8_place 164 = .ok (.iload_n 3, 1) := by decide +kernel
theorem dX8_place_165 : decode cX8_place 165 = .ok (.iload 8, 2) := by decide +kernel
theorem dX8_place_167 : decode cX8_place 167 = .ok (.iadd, 1) := by decide +kernel
theorem dX8_place_168 : decode cX8_place 168 = .ok (.goto 7, 3) := by decide +kernel
theorem dX8_place_171 : decode cX8_place 171 = .ok (.iload_n 3, 1) := by decide +kernel
theorem dX8_place_172 : decode cX8_place 172 = .ok (.iload 8, 2) := by decide +kernel
theorem dX8_place_174 : decode cX8_place 174 = .ok (.isub, 1) := by decide +kernel
theorem dX8_place_175 : decode cX8_place 175 = .ok (.ireturn, 1) := by decide +kernel
theorem dX8_findCarriers_0 : decode cX8_findCarriers 0 = .ok (.iconst 0, 1) := by decide +kernel
theorem dX8_findCarriers_1 : decode cX8_findCarriers 1 = .ok (.istore_n 2, 1) := by decide +kernel
theorem dX8_findCarriers_2 : decode cX8_findCarriers 2 = .ok (.iload_n 2, 1) := by decide +kernel
theorem dX8_findCarriers_3 : decode cX8_findCarriers 3 = .ok (.bipush 6, 2) := by decide +kernel
theorem dX8_findCarriers_5 : decode cX8_findCarriers 5 = .ok (.if_icmp .ge 16, 3) := by decide +kernel
theorem dX8_findCarriers_8 : decode cX8_findCarriers 8 = .ok (.aload_n 0, 1) := by decide +kernel
theorem dX8_findCarriers_9 : decode cX8_findCarriers 9 = .ok (.getfield 37, 3) := by decide +kernel
theorem dX8_findCarriers_12 : decode cX8_findCarriers 12 = .ok (.iload_n 2, 1) := by decide +kernel
theorem dX8_findCarriers_13 : decode cX8_findCarriers 13 = .ok (.iconst 0, 1) := by decide +kernel
theorem dX8_findCarriers_14 : decode cX8_findCarriers 14 = .ok (.iastore, 1) := by decide +kernel
theorem dX8_findCarriers_15 : decode cX8_findCarriers 15 = .ok (.iinc 2 1, 3) := by decide +kernel
theorem dX8_findCarriers_18 : decode cX8_findCarriers 18 = .ok (.goto (-16), 3) := by decide +kernel
theorem dX8_findCarriers_21 : decode cX8_findCarriers 21 = .ok (.iconst 0, 1) := by decide +kernel
theorem dX8_findCarriers_22 : decode cX8_findCarriers 22 = .ok (.istore_n 2, 1) := by decide +kernel
theorem dX8_findCarriers_23 : decode cX8_findCarriers 23 = .ok (.iload_n 2, 1) := by decide +kernel
theorem dX8_findCarriers_24 : decode cX8_findCarriers 24 = .ok (.iconst 4, 1) := by decide +kernel
theorem dX8_findCarriers_25 : decode cX8_findCarriers 25 = .ok (.if_icmp .ge 195, 3) := by decide +kernel
theorem dX8_findCarriers_28 : decode cX8_findCarriers 28 = .ok (.aload_n 0, 1) := by decide +kernel
theorem dX8_findCarriers_29 : decode cX8_findCarriers 29 = .ok (.getfield 34, 3) := by decide +kernel
theorem dX8_findCarriers_32 : decode cX8_findCarriers 32 = .ok (.iload_n 2, 1) := by decide +kernel
theorem dX8_findCarriers_33 : decode cX8_findCarriers 33 = .ok (.ldc 96, 2) := by decide +kernel
theorem dX8_findCarriers_35 : decode cX8_findCarriers 35 = .ok (.iastore, 1) := by decide +kernel
theorem dX8_findCarriers_36 : decode cX8_findCarriers 36 = .ok (.aload_n 1, 1) := by decide +kernel
theorem dX8_findCarriers_37 : decode cX8_findCarriers 37 = .ok (.iload_n 2, 1) := by decide +kernel
theorem dX8_findCarriers_38 : decode cX8_findCarriers 38 = .ok (.iconst 1, 1) := by decide +kernel
theorem dX8_findCarriers_39 : decode cX8_findCarriers 39 = .ok (.invokestatic 160, 3) := by decide +kernel
theorem dX8_findCarriers_42 : decode cX8_findCarriers 42 = .ok (.istore_n 3, 1) := by decide +kernel
theorem dX8_findCarriers_43 : decode cX8_findCarriers 43 = .ok (.aload_n 1, 1) := by decide +kernel
theorem dX8_findCarriers_44 : decode cX8_findCarriers 44 = .ok (.iload_n 2, 1) := by decide +kernel
theorem dX8_findCarriers_45 : decode cX8_findCarriers 45 = .ok (.iconst 2, 1) := by decide +kernel
theorem dX8_findCarriers_46 : decode cX8_findCarriers 46 = .ok (.invokestatic 160, 3) := by decide +kernel
theorem dX8_findCarriers_49 : decode cX8_findCarriers 49 = .ok (.istore 4, 2) := by decide +kernel
theorem dX8_findCarriers_51 : decode cX8_findCarriers 51 = .ok (.iconst 0, 1) := by decide +kernel
theorem dX8_findCarriers_52 : decode cX8_findCarriers 52 = .ok (.istore 5, 2) := by decide +kernel
theorem dX8_findCarriers_54 : decode cX8_findCarriers 54 = .ok (.iload 5, 2) := by decide +kernel
theorem dX8_findCarriers_56 : decode cX8_findCarriers 56 = .ok (.aload_n 1, 1) := by decide +kernel
theorem dX8_findCarriers_57 : decode cX8_findCarriers 57 = .ok (.iconst 2, 1) := by decide +kernel
theorem dX8_findCarriers_58 : decode cX8_findCarriers 58 = .ok (.iaload, 1) := by decide +kernel
theorem dX8_findCarriers_59 : decode cX8_findCarriers 59 = .ok (.if_icmp .ge 155, 3) := by decide +kernel
theorem dX8_findCarriers_62 : decode cX8_findCarriers 62 = .ok (.aload_n 1, 1) := by decide +kernel
theorem dX8_findCarriers_63 : decode cX8_findCarriers 63 = .ok (.iload_n 2, 1) := by decide +kernel
theorem dX8_findCarriers_64 : decode cX8_findCarriers 64 = .ok (.invokestatic 164, 3) := by decide +kernel
theorem dX8_findCarriers_67 : decode cX8_findCarriers 67 = .ok (.ifCond .eq 147, 3) := by decide +kernel
theorem dX8_findCarriers_70 : decode cX8_findCarriers 70 = .ok (.iload_n 3, 1) := by decide +kernel
theorem dX8_findCarriers_71 : decode cX8_findCarriers 71 = .ok (.iload 4, 2) := by decide +kernel
theorem dX8_findCarriers_73 : decode cX8_findCarriers 73 = .ok (.if_icmp .eq 141, 3) := by decide +kernel
theorem dX8_findCarriers_76 : decode cX8_findCarriers 76 = .ok (.aload_n 0, 1) := by decide +kernel
theorem dX8_findCarriers_77 : decode cX8_findCarriers 77 = .ok (.getfield 34, 3) := by decide +kernel
theorem dX8_findCarriers_80 : decode cX8_findCarriers 80 = .ok (.iload_n 2, 1) := by decide +kernel
theorem dX8_findCarriers_81 : decode cX8_findCarriers 81 = .ok (.iaload, 1) := by decide +kernel
theorem dX8_findCarriers_82 : decode cX8_findCarriers 82 = .ok (.ldc 96, 2) := by decide +kernel
theorem dX8_findCarriers_84 : decode cX8_findCarriers 84 = .ok (.if_icmp .ne 130, 3) := by decide +kernel
theorem dX8_findCarriers_87 : decode cX8_findCarriers 87 = .ok (.aload_n 1, 1) := by decide +kernel
theorem dX8_findCarriers_88 : decode cX8_findCarriers 88 = .ok (.iload 5, 2) := by decide +kernel
theorem dX8_findCarriers_90 : decode cX8_findCarriers 90 = .ok (.aload_n 1, 1) := by decide +kernel
theorem dX8_findCarriers_91 : decode cX8_findCarriers 91 = .ok (.iconst 3, 1) := by decide +kernel
theorem dX8_findCarriers_92 : decode cX8_findCarriers 92 = .ok (.iaload, 1) := by decide +kernel
theorem dX8_findCarriers_93 : decode cX8_findCarriers 93 = .ok (.iconst 1, 1) := by decide +kernel
theorem dX8_findCarriers_94 : decode cX8_findCarriers 94 = .ok (.iadd, 1) := by decide +kernel
theorem dX8_findCarriers_95 : decode cX8_findCarriers 95 = .ok (.invokestatic 175, 3) := by decide +kernel
theorem dX8_findCarriers_98 : decode cX8_findCarriers 98 = .ok (.istore 6, 2) := by decide +kernel
theorem dX8_findCarriers_100 : decode cX8_findCarriers 100 = .ok (.iload 4, 2) := by decide +kernel
theorem dX8_findCarriers_102 : decode cX8_findCarriers 102 = .ok (.iload_n 3, 1) := by decide +kernel
theorem dX8_findCarriers_103 : decode cX8_findCarriers 103 = .ok (.if_icmp .le 17, 3) := by decide +kernel
theorem dX8_findCarriers_106 : decode cX8_findCarriers 106 = .ok (.iload 6, 2) := by decide +kernel
theorem dX8_findCarriers_108 : decode cX8_findCarriers 108 = .ok (.iload_n 3, 1) := by decide +kernel
theorem dX8_findCarriers_109 : decode cX8_findCarriers 109 = .ok (.if_icmp .le 7, 3) := by decide +kernel
theorem dX8_findCarriers_112 : decode cX8_findCarriers 112 = .ok (.iconst 1, 1) := by decide +kernel
theorem dX8_findCarriers_113 : decode cX8_findCarriers 113 = .ok (.goto 18, 3) := by decide +kernel
theorem dX8_findCarriers_116 : decode cX8_findCarriers 116 = .ok (.iconst 0, 1) := by decide +kernel
theorem dX8_findCarriers_117 : decode cX8_findCarriers 117 = .ok (.goto 14, 3) := by decide +kernel
theorem dX8_findCarriers_120 : decode cX8_findCarriers 120 = .ok (.iload 6, 2) := by decide +kernel
theorem dX8_findCarriers_122 : decode cX8_findCarriers 122 = .ok (.iload_n 3, 1) := by decide +kernel
theorem dX8_findCarriers_123 : decode cX8_findCarriers 123 = .ok (.if_icmp .ge 7, 3) := by decide +kernel
theorem dX8_findCarriers_126 : decode cX8_findCarriers 126 = .ok (.iconst 1, 1) := by decide +kernel
theorem dX8_findCarriers_127 : decode cX8_findCarriers 127 = .ok (.goto 4, 3) := by decide +kernel
theorem dX8_findCarriers_130 : decode cX8_findCarriers 130 = .ok (.iconst 0, 1) := by decide +kernel
theorem dX8_findCarriers_131 : decode cX8_findCarriers 131 = .ok (.istore 7, 2) := by decide +kernel
theorem dX8_findCarriers_133 : decode cX8_findCarriers 133 = .ok (.aload_n 0, 1) := by decide +kernel
theorem dX8_findCarriers_134 : decode cX8_findCarriers 134 = .ok (.getfield 37, 3) := by decide +kernel
theorem dX8_findCarriers_137 : decode cX8_findCarriers 137 = .ok (.iload 5, 2) := by decide +kernel
theorem dX8_findCarriers_139 : decode cX8_findCarriers 139 = .ok (.iaload, 1) := by decide +kernel
theorem dX8_findCarriers_140 : decode cX8_findCarriers 140 = .ok (.aload_n 1, 1) := by decide +kernel
theorem dX8_findCarriers_141 : decode cX8_findCarriers 141 = .ok (.iload 5, 2) := by decide +kernel
theorem dX8_findCarriers_143 : decode cX8_findCarriers 143 = .ok (.iconst 0, 1) := by decide +kernel
theorem dX8_findCarriers_144 : decode cX8_findCarriers 144 = .ok (.invokestatic 168, 3) := by decide +kernel
theorem dX8_findCarriers_147 : decode cX8_findCarriers 147 = .ok (.iconst 2, 1) := by decide +kernel
theorem dX8_findCarriers_148 : decode cX8_findCarriers 148 = .ok (.if_icmp .ne 7, 3) := by decide +kernel
theorem dX8_findCarriers_151 : decode cX8_findCarriers 151 = .ok (.iconst 2, 1) := by decide +kernel
theorem dX8_findCarriers_152 : decode cX8_findCarriers 152 = .ok (.goto 4, 3) := by decide +kernel
theorem dX8_findCarriers_155 : decode cX8_findCarriers 155 = .ok (.iconst 1, 1) := by decide +kernel
theorem dX8_findCarriers_156 : decode cX8_findCarriers 156 = .ok (.if_icmp .ge 7, 3) := by decide +kernel
theorem dX8_findCarriers_159 : decode cX8_findCarriers 159 = .ok (.iconst 1, 1) := by decide +kernel
theorem dX8_findCarriers_160 : decode cX8_findCarriers 160 = .ok (.goto 4, 3) := by decide +kernel
theorem dX8_findCarriers_163 : decode cX8_findCarriers 163 = .ok (.iconst 0, 1) := by decide +kernel
theorem dX8_findCarriers_164 : decode cX8_findCarriers 164 = .ok (.istore 8, 2) := by decide +kernel
theorem dX8_findCarriers_166 : decode cX8_findCarriers 166 = .ok (.aload_n 1, 1) := by decide +kernel
theorem dX8_findCarriers_167 : decode cX8_findCarriers 167 = .ok (.iload 5, 2) := by decide +kernel
theorem dX8_findCarriers_169 : decode cX8_findCarriers 169 = .ok (.aload_n 1, 1) := by decide +kernel
theorem dX8_findCarriers_170 : decode cX8_findCarriers 170 = .ok (.iconst 3, 1) := by decide +kernel
theorem dX8_findCarriers_171 : decode cX8_findCarriers 171 = .ok (.iaload, 1) := by decide +kernel
theorem dX8_findCarriers_172 : decode cX8_findCarriers 172 = .ok (.invokestatic 175, 3) := by decide +kernel
theorem dX8_findCarriers_175 : decode cX8_findCarriers 175 = .ok (.iload_n 3, 1) := by decide +kernel
theorem dX8_findCarriers_176 : decode cX8_findCarriers 176 = .ok (.if_icmp .ne 32, 3) := by decide +kernel
theorem dX8_findCarriers_179 : decode cX8_findCarriers 179 = .ok (.iload 7, 2) := by decide +kernel
theorem dX8_findCarriers_181 : decode cX8_findCarriers 181 = .ok (.ifCond .eq 27, 3) := by decide +kernel
theorem dX8_findCarriers_184 : decode cX8_findCarriers 184 = .ok (.iload 8, 2) := by decide +kernel
theorem dX8_findCarriers_186 : decode cX8_findCarriers 186 = .ok (.ifCond .eq 22, 3) := by decide +kernel
theorem dX8_findCarriers_189 : decode cX8_findCarriers 189 = .ok (.aload_n 0, 1) := by decide +kernel
theorem dX8_findCarriers_190 : decode cX8_findCarriers 190 = .ok (.getfield 34, 3) := by decide +kernel
theorem dX8_findCarriers_193 : decode cX8_findCarriers 193 = .ok (.iload_n 2, 1) := by decide +kernel
theorem dX8_findCarriers_194 : decode cX8_findCarriers 194 = .ok (.iload 5, 2) := by decide +kernel
theorem dX8_findCarriers_196 : decode cX8_findCarriers 196 = .ok (.iastore, 1) := by decide +kernel
theorem dX8_findCarriers_197 : decode cX8_findCarriers 197 = .ok (.aload_n 0, 1) := by decide +kernel
theorem dX8_findCarriers_198 : decode cX8_findCarriers 198 = .ok (.getfield 37, 3) := by decide +kernel
theorem dX8_findCarriers_201 : decode cX8_findCarriers 201 = .ok (.iload 5, 2) := by decide +kernel
theorem dX8_findCarriers_203 : decode cX8_findCarriers 203 = .ok (.dup2, 1) := by decide +kernel
theorem dX8_findCarriers_204 : decode cX8_findCarriers 204 = .ok (.iaload, 1) := by decide +kernel
theorem dX8_findCarriers_205 : decode cX8_findCarriers 205 = .ok (.iconst 1, 1) := by decide +kernel
theorem dX8_findCarriers_206 : decode cX8_findCarriers 206 = .ok (.iadd, 1) := by decide +kernel
theorem dX8_findCarriers_207 : decode cX8_findCarriers 207 = .ok (.iastore, 1) := by decide +kernel
theorem dX8_findCarriers_208 : decode cX8_findCarriers 208 = .ok (.iinc 5 1, 3) := by decide +kernel
theorem dX8_findCarriers_211 : decode cX8_findCarriers 211 = .ok (.goto (-157), 3) := by decide +kernel
theorem dX8_findCarriers_214 : decode cX8_findCarriers 214 = .ok (.iinc 2 1, 3) := by decide +kernel
theorem dX8_findCarriers_217 : decode cX8_findCarriers 217 = .ok (.goto (-194), 3) := by decide +kernel
theorem dX8_findCarriers_220 : decode cX8_findCarriers 220 = .ok (.return_, 1) := by decide +kernel
theorem dX8_hour_0 : decode cX8_hour 0 = .ok (.iconst 0, 1) := by decide +kernel
theorem dX8_hour_1 : decode cX8_hour 1 = .ok (.istore_n 2, 1) := by decide +kernel
theorem dX8_hour_2 : decode cX8_hour 2 = .ok (.aload_n 0, 1) := by decide +kernel
theorem dX8_hour_3 : decode cX8_hour 3 = .ok (.aload_n 1, 1) := by decide +kernel
theorem dX8_hour_4 : decode cX8_hour 4 = .ok (.invokevirtual 178, 3) := by decide +kernel
theorem dX8_hour_7 : decode cX8_hour 7 = .ok (.iconst 0, 1) := by decide +kernel
theorem dX8_hour_8 : decode cX8_hour 8 = .ok (.istore_n 3, 1) := by decide +kernel
theorem dX8_hour_9 : decode cX8_hour 9 = .ok (.iload_n 3, 1) := by decide +kernel
theorem dX8_hour_10 : decode cX8_hour 10 = .ok (.iconst 4, 1) := by decide +kernel
theorem dX8_hour_11 : decode cX8_hour 11 = .ok (.if_icmp .ge 113, 3) := by decide +kernel
theorem dX8_hour_14 : decode cX8_hour 14 = .ok (.aload_n 0, 1) := by decide +kernel
theorem dX8_hour_15 : decode cX8_hour 15 = .ok (.getfield 34, 3) := by decide +kernel
theorem dX8_hour_18 : decode cX8_hour 18 = .ok (.iload_n 3, 1) := by decide +kernel
theorem dX8_hour_19 : decode cX8_hour 19 = .ok (.iaload, 1) := by decide +kernel
theorem dX8_hour_20 : decode cX8_hour 20 = .ok (.ldc 96, 2) := by decide +kernel
theorem dX8_hour_22 : decode cX8_hour 22 = .ok (.if_icmp .eq 96, 3) := by decide +kernel
theorem dX8_hour_25 : decode cX8_hour 25 = .ok (.aload_n 1, 1) := by decide +kernel
theorem dX8_hour_26 : decode cX8_hour 26 = .ok (.iload_n 3, 1) := by decide +kernel
theorem dX8_hour_27 : decode cX8_hour 27 = .ok (.iconst 1, 1) := by decide +kernel
theorem dX8_hour_28 : decode cX8_hour 28 = .ok (.invokestatic 160, 3) := by decide +kernel
theorem dX8_hour_31 : decode cX8_hour 31 = .ok (.istore 4, 2) := by decide +kernel
theorem dX8_hour_33 : decode cX8_hour 33 = .ok (.aload_n 1, 1) := by decide +kernel
theorem dX8_hour_34 : decode cX8_hour 34 = .ok (.iload_n 3, 1) := by decide +kernel
theorem dX8_hour_35 : decode cX8_hour 35 = .ok (.iconst 2, 1) := by decide +kernel
theorem dX8_hour_36 : decode cX8_hour 36 = .ok (.invokestatic 160, 3) := by decide +kernel
theorem dX8_hour_39 : decode cX8_hour 39 = .ok (.istore 5, 2) := by decide +kernel
theorem dX8_hour_41 : decode cX8_hour 41 = .ok (.aload_n 1, 1) := by decide +kernel
theorem dX8_hour_42 : decode cX8_hour 42 = .ok (.aload_n 0, 1) := by decide +kernel
theorem dX8_hour_43 : decode cX8_hour 43 = .ok (.getfield 34, 3) := by decide +kernel
theorem dX8_hour_46 : decode cX8_hour 46 = .ok (.iload_n 3, 1) := by decide +kernel
theorem dX8_hour_47 : decode cX8_hour 47 = .ok (.iaload, 1) := by decide +kernel
theorem dX8_hour_48 : decode cX8_hour 48 = .ok (.aload_n 1, 1) := by decide +kernel
theorem dX8_hour_49 : decode cX8_hour 49 = .ok (.iconst 3, 1) := by decide +kernel
theorem dX8_hour_50 : decode cX8_hour 50 = .ok (.iaload, 1) := by decide +kernel
theorem dX8_hour_51 : decode cX8_hour 51 = .ok (.iconst 1, 1) := by decide +kernel
theorem dX8_hour_52 : decode cX8_hour 52 = .ok (.iadd, 1) := by decide +kernel
theorem dX8_hour_53 : decode cX8_hour 53 = .ok (.invokestatic 175, 3) := by decide +kernel
theorem dX8_hour_56 : decode cX8_hour 56 = .ok (.istore 6, 2) := by decide +kernel
theorem dX8_hour_58 : decode cX8_hour 58 = .ok (.iload 5, 2) := by decide +kernel
theorem dX8_hour_60 : decode cX8_hour 60 = .ok (.iload 4, 2) := by decide +kernel
theorem dX8_hour_62 : decode cX8_hour 62 = .ok (.if_icmp .le 18, 3) := by decide +kernel
theorem dX8_hour_65 : decode cX8_hour 65 = .ok (.iload 6, 2) := by decide +kernel
theorem dX8_hour_67 : decode cX8_hour 67 = .ok (.iload 5, 2) := by decide +kernel
theorem dX8_hour_69 : decode cX8_hour 69 = .ok (.if_icmp .le 7, 3) := by decide +kernel
theorem dX8_hour_72 : decode cX8_hour 72 = .ok (.iconst 1, 1) := by decide +kernel
theorem dX8_hour_73 : decode cX8_hour 73 = .ok (.goto 19, 3) := by decide +kernel
theorem dX8_hour_76 : decode cX8_hour 76 = .ok (.iconst 0, 1) := by decide +kernel
theorem dX8_hour_77 : decode cX8_hour 77 = .ok (.goto 15, 3) := by decide +kernel
theorem dX8_hour_80 : decode cX8_hour 80 = .ok (.iload 6, 2) := by decide +kernel
theorem dX8_hour_82 : decode cX8_hour 82 = .ok (.iload 5, 2) := by decide +kernel
theorem dX8_hour_84 : decode cX8_hour 84 = .ok (.if_icmp .ge 7, 3) := by decide +kernel
theorem dX8_hour_87 : decode cX8_hour 87 = .ok (.iconst 1, 1) := by decide +kernel
theorem dX8_hour_88 : decode cX8_hour 88 = .ok (.goto 4, 3) := by decide +kernel
theorem dX8_hour_91 : decode cX8_hour 91 = .ok (.iconst 0, 1) := by decide +kernel
theorem dX8_hour_92 : decode cX8_hour 92 = .ok (.istore 7, 2) := by decide +kernel
theorem dX8_hour_94 : decode cX8_hour 94 = .ok (.aload_n 1, 1) := by decide +kernel
theorem dX8_hour_95 : decode cX8_hour 95 = .ok (.iconst 5, 1) := by decide +kernel
theorem dX8_hour_96 : decode cX8_hour 96 = .ok (.iconst 3, 1) := by decide +kernel
theorem dX8_hour_97 : decode cX8_hour 97 = .ok (.iload_n 3, 1) := by decide +kernel
theorem dX8_hour_98 : decode cX8_hour 98 = .ok (.imul, 1) := by decide +kernel
theorem dX8_hour_99 : decode cX8_hour 99 = .ok (.iadd, 1) := by decide +kernel
theorem dX8_hour_100 : decode cX8_hour 100 = .ok (.iconst 1, 1) := by decide +kernel
theorem dX8_hour_101 : decode cX8_hour 101 = .ok (.iadd, 1) := by decide +kernel
theorem dX8_hour_102 : decode cX8_hour 102 = .ok (.iload 7, 2) := by decide +kernel
theorem dX8_hour_104 : decode cX8_hour 104 = .ok (.ifCond .eq 8, 3) := by decide +kernel
theorem dX8_hour_107 : decode cX8_hour 107 = .ok (.iload 5, 2) := by decide +kernel
theorem dX8_hour_109 : decode cX8_hour 109 = .ok (.goto 5, 3) := by decide +kernel
theorem dX8_hour_112 : decode cX8_hour 112 = .ok (.iload 6, 2) := by decide +kernel
theorem dX8_hour_114 : decode cX8_hour 114 = .ok (.iastore, 1) := by decide +kernel
theorem dX8_hour_115 : decode cX8_hour 115 = .ok (.iinc 2 1, 3) := by decide +kernel
theorem dX8_hour_118 : decode cX8_hour 118 = .ok (.iinc 3 1, 3) := by decide +kernel
theorem dX8_hour_121 : decode cX8_hour 121 = .ok (.goto (-112), 3) := by decide +kernel
theorem dX8_hour_124 : decode cX8_hour 124 = .ok (.aload_n 1, 1) := by decide +kernel
theorem dX8_hour_125 : decode cX8_hour 125 = .ok (.iconst 3, 1) := by decide +kernel
theorem dX8_hour_126 : decode cX8_hour 126 = .ok (.dup2, 1) := by decide +kernel
theorem dX8_hour_127 : decode cX8_hour 127 = .ok (.iaload, 1) := by decide +kernel
theorem dX8_hour_128 : decode cX8_hour 128 = .ok (.iconst 1, 1) := by decide +kernel
theorem dX8_hour_129 : decode cX8_hour 129 = .ok (.iadd, 1) := by decide +kernel
theorem dX8_hour_130 : decode cX8_hour 130 = .ok (.iastore, 1) := by decide +kernel
theorem dX8_hour_131 : decode cX8_hour 131 = .ok (.iload_n 2, 1) := by decide +kernel
theorem dX8_hour_132 : decode cX8_hour 132 = .ok (.ireturn, 1) := by decide +kernel
theorem dX8_hoursOf_0 : decode cX8_hoursOf 0 = .ok (.iconst 0, 1) := by decide +kernel
theorem dX8_hoursOf_1 : decode cX8_hoursOf 1 = .ok (.istore_n 3, 1) := by decide +kernel
theorem dX8_hoursOf_2 : decode cX8_hoursOf 2 = .ok (.iload_n 3, 1) := by decide +kernel
theorem dX8_hoursOf_3 : decode cX8_hoursOf 3 = .ok (.iload_n 2, 1) := by decide +kernel
theorem dX8_hoursOf_4 : decode cX8_hoursOf 4 = .ok (.if_icmp .ge 16, 3) := by decide +kernel
theorem dX8_hoursOf_7 : decode cX8_hoursOf 7 = .ok (.aload_n 0, 1) := by decide +kernel
theorem dX8_hoursOf_8 : decode cX8_hoursOf 8 = .ok (.aload_n 1, 1) := by decide +kernel
theorem dX8_hoursOf_9 : decode cX8_hoursOf 9 = .ok (.invokevirtual 182, 3) := by decide +kernel
theorem dX8_hoursOf_12 : decode cX8_hoursOf 12 = .ok (.istore 4, 2) := by decide +kernel
theorem dX8_hoursOf_14 : decode cX8_hoursOf 14 = .ok (.iinc 3 1, 3) := by decide +kernel
theorem dX8_hoursOf_17 : decode cX8_hoursOf 17 = .ok (.goto (-15), 3) := by decide +kernel
theorem dX8_hoursOf_20 : decode cX8_hoursOf 20 = .ok (.return_, 1) := by decide +kernel
theorem dX8_posts_0 : decode cX8_posts 0 = .ok (.aload_n 0, 1) := by decide +kernel
theorem dX8_posts_1 : decode cX8_posts 1 = .ok (.iconst 5, 1) := by decide +kernel
theorem dX8_posts_2 : decode cX8_posts 2 = .ok (.iconst 3, 1) := by decide +kernel
theorem dX8_posts_3 : decode cX8_posts 3 = .ok (.iload_n 1, 1) := by decide +kernel
theorem dX8_posts_4 : decode cX8_posts 4 = .ok (.imul, 1) := by decide +kernel
theorem dX8_posts_5 : decode cX8_posts 5 = .ok (.iadd, 1) := by decide +kernel
theorem dX8_posts_6 : decode cX8_posts 6 = .ok (.iconst 1, 1) := by decide +kernel
theorem dX8_posts_7 : decode cX8_posts 7 = .ok (.iastore, 1) := by decide +kernel
theorem dX8_posts_8 : decode cX8_posts 8 = .ok (.aload_n 0, 1) := by decide +kernel
theorem dX8_posts_9 : decode cX8_posts 9 = .ok (.iconst 5, 1) := by decide +kernel
theorem dX8_posts_10 : decode cX8_posts 10 = .ok (.iconst 3, 1) := by decide +kernel
theorem dX8_posts_11 : decode cX8_posts 11 = .ok (.iload_n 1, 1) := by decide +kernel
theorem dX8_posts_12 : decode cX8_posts 12 = .ok (.imul, 1) := by decide +kernel
theorem dX8_posts_13 : decode cX8_posts 13 = .ok (.iadd, 1) := by decide +kernel
theorem dX8_posts_14 : decode cX8_posts 14 = .ok (.iconst 1, 1) := by decide +kernel
theorem dX8_posts_15 : decode cX8_posts 15 = .ok (.iadd, 1) := by decide +kernel
theorem dX8_posts_16 : decode cX8_posts 16 = .ok (.iload_n 2, 1) := by decide +kernel
theorem dX8_posts_17 : decode cX8_posts 17 = .ok (.iastore, 1) := by decide +kernel
theorem dX8_posts_18 : decode cX8_posts 18 = .ok (.aload_n 0, 1) := by decide +kernel
theorem dX8_posts_19 : decode cX8_posts 19 = .ok (.iconst 5, 1) := by decide +kernel
theorem dX8_posts_20 : decode cX8_posts 20 = .ok (.iconst 3, 1) := by decide +kernel
theorem dX8_posts_21 : decode cX8_posts 21 = .ok (.iload_n 1, 1) := by decide +kernel
theorem dX8_posts_22 : decode cX8_posts 22 = .ok (.imul, 1) := by decide +kernel
theorem dX8_posts_23 : decode cX8_posts 23 = .ok (.iadd, 1) := by decide +kernel
theorem dX8_posts_24 : decode cX8_posts 24 = .ok (.iconst 2, 1) := by decide +kernel
theorem dX8_posts_25 : decode cX8_posts 25 = .ok (.iadd, 1) := by decide +kernel
theorem dX8_posts_26 : decode cX8_posts 26 = .ok (.iload_n 3, 1) := by decide +kernel
theorem dX8_posts_27 : decode cX8_posts 27 = .ok (.iastore, 1) := by decide +kernel
theorem dX8_posts_28 : decode cX8_posts 28 = .ok (.return_, 1) := by decide +kernel
theorem dX8_outs_0 : decode cX8_outs 0 = .ok (.iconst 0, 1) := by decide +kernel
theorem dX8_outs_1 : decode cX8_outs 1 = .ok (.istore_n 1, 1) := by decide +kernel
theorem dX8_outs_2 : decode cX8_outs 2 = .ok (.iconst 0, 1) := by decide +kernel
theorem dX8_outs_3 : decode cX8_outs 3 = .ok (.istore_n 2, 1) := by decide +kernel
theorem dX8_outs_4 : decode cX8_outs 4 = .ok (.iload_n 2, 1) := by decide +kernel
theorem dX8_outs_5 : decode cX8_outs 5 = .ok (.iconst 4, 1) := by decide +kernel
theorem dX8_outs_6 : decode cX8_outs 6 = .ok (.if_icmp .ge 27, 3) := by decide +kernel
theorem dX8_outs_9 : decode cX8_outs 9 = .ok (.iload_n 1, 1) := by decide +kernel
theorem dX8_outs_10 : decode cX8_outs 10 = .ok (.aload_n 0, 1) := by decide +kernel
theorem dX8_outs_11 : decode cX8_outs 11 = .ok (.iload_n 2, 1) := by decide +kernel
theorem dX8_outs_12 : decode cX8_outs 12 = .ok (.invokestatic 164, 3) := by decide +kernel
theorem dX8_outs_15 : decode cX8_outs 15 = .ok (.ifCond .eq 9, 3) := by decide +kernel
theorem dX8_outs_18 : decode cX8_outs 18 = .ok (.iconst 1, 1) := by decide +kernel
theorem dX8_outs_19 : decode cX8_outs 19 = .ok (.iload_n 2, 1) := by decide +kernel
theorem dX8_outs_20 : decode cX8_outs 20 = .ok (.ishl, 1) := by decide +kernel
theorem dX8_outs_21 : decode cX8_outs 21 = .ok (.goto 4, 3) := by decide +kernel
theorem dX8_outs_24 : decode cX8_outs 24 = .ok (.iconst 0, 1) := by decide +kernel
theorem dX8_outs_25 : decode cX8_outs 25 = .ok (.ior, 1) := by decide +kernel
theorem dX8_outs_26 : decode cX8_outs 26 = .ok (.istore_n 1, 1) := by decide +kernel
theorem dX8_outs_27 : decode cX8_outs 27 = .ok (.iinc 2 1, 3) := by decide +kernel
theorem dX8_outs_30 : decode cX8_outs 30 = .ok (.goto (-26), 3) := by decide +kernel
theorem dX8_outs_33 : decode cX8_outs 33 = .ok (.iload_n 1, 1) := by decide +kernel
theorem dX8_outs_34 : decode cX8_outs 34 = .ok (.ireturn, 1) := by decide +kernel
theorem dX8_dones_0 : decode cX8_dones 0 = .ok (.iconst 0, 1) := by decide +kernel
theorem dX8_dones_1 : decode cX8_dones 1 = .ok (.istore_n 1, 1) := by decide +kernel
theorem dX8_dones_2 : decode cX8_dones 2 = .ok (.iconst 0, 1) := by decide +kernel
theorem dX8_dones_3 : decode cX8_dones 3 = .ok (.istore_n 2, 1) := by decide +kernel
theorem dX8_dones_4 : decode cX8_dones 4 = .ok (.iload_n 2, 1) := by decide +kernel
theorem dX8_dones_5 : decode cX8_dones 5 = .ok (.iconst 4, 1) := by decide +kernel
theorem dX8_dones_6 : decode cX8_dones 6 = .ok (.if_icmp .ge 27, 3) := by decide +kernel
theorem dX8_dones_9 : decode cX8_dones 9 = .ok (.iload_n 1, 1) := by decide +kernel
theorem dX8_dones_10 : decode cX8_dones 10 = .ok (.aload_n 0, 1) := by decide +kernel
theorem dX8_dones_11 : decode cX8_dones 11 = .ok (.iload_n 2, 1) := by decide +kernel
theorem dX8_dones_12 : decode cX8_dones 12 = .ok (.invokestatic 186, 3) := by decide +kernel
theorem dX8_dones_15 : decode cX8_dones 15 = .ok (.ifCond .eq 9, 3) := by decide +kernel
theorem dX8_dones_18 : decode cX8_dones 18 = .ok (.iconst 1, 1) := by decide +kernel
theorem dX8_dones_19 : decode cX8_dones 19 = .ok (.iload_n 2, 1) := by decide +kernel
theorem dX8_dones_20 : decode cX8_dones 20 = .ok (.ishl, 1) := by decide +kernel
theorem dX8_dones_21 : decode cX8_dones 21 = .ok (.goto 4, 3) := by decide +kernel
theorem dX8_dones_24 : decode cX8_dones 24 = .ok (.iconst 0, 1) := by decide +kernel
theorem dX8_dones_25 : decode cX8_dones 25 = .ok (.ior, 1) := by decide +kernel
theorem dX8_dones_26 : decode cX8_dones 26 = .ok (.istore_n 1, 1) := by decide +kernel
theorem dX8_dones_27 : decode cX8_dones 27 = .ok (.iinc 2 1, 3) := by decide +kernel
theorem dX8_dones_30 : decode cX8_dones 30 = .ok (.goto (-26), 3) := by decide +kernel
theorem dX8_dones_33 : decode cX8_dones 33 = .ok (.iload_n 1, 1) := by decide +kernel
theorem dX8_dones_34 : decode cX8_dones 34 = .ok (.ireturn, 1) := by decide +kernel
theorem dX8_layThen_0 : decode cX8_layThen 0 = .ok (.iconst 0, 1) := by decide +kernel
theorem dX8_layThen_1 : decode cX8_layThen 1 = .ok (.istore_n 1, 1) := by decide +kernel
theorem dX8_layThen_2 : decode cX8_layThen 2 = .ok (.iload_n 1, 1) := by decide +kernel
theorem dX8_layThen_3 : decode cX8_layThen 3 = .ok (.bipush 41, 2) := by decide +kernel
theorem dX8_layThen_5 : decode cX8_layThen 5 = .ok (.if_icmp .ge 21, 3) := by decide +kernel
theorem dX8_layThen_8 : decode cX8_layThen 8 = .ok (.aload_n 0, 1) := by decide +kernel
theorem dX8_layThen_9 : decode cX8_layThen 9 = .ok (.getfield 25, 3) := by decide +kernel
theorem dX8_layThen_12 : decode cX8_layThen 12 = .ok (.iload_n 1, 1) := by decide +kernel
theorem dX8_layThen_13 : decode cX8_layThen 13 = .ok (.aload_n 0, 1) := by decide +kernel
theorem dX8_layThen_14 : decode cX8_layThen 14 = .ok (.getfield 19, 3) := by decide +kernel
theorem dX8_layThen_17 : decode cX8_layThen 17 = .ok (.iload_n 1, 1) := by decide +kernel
theorem dX8_layThen_18 : decode cX8_layThen 18 = .ok (.iaload, 1) := by decide +kernel
theorem dX8_layThen_19 : decode cX8_layThen 19 = .ok (.iastore, 1) := by decide +kernel
theorem dX8_layThen_20 : decode cX8_layThen 20 = .ok (.iinc 1 1, 3) := by decide +kernel
theorem dX8_layThen_23 : decode cX8_layThen 23 = .ok (.goto (-21), 3) := by decide +kernel
theorem dX8_layThen_26 : decode cX8_layThen 26 = .ok (.return_, 1) := by decide +kernel
theorem dX8_doneBy_0 : decode cX8_doneBy 0 = .ok (.iconst 0, 1) := by decide +kernel
theorem dX8_doneBy_1 : decode cX8_doneBy 1 = .ok (.istore_n 3, 1) := by decide +kernel
theorem dX8_doneBy_2 : decode cX8_doneBy 2 = .ok (.iload_n 3, 1) := by decide +kernel
theorem dX8_doneBy_3 : decode cX8_doneBy 3 = .ok (.iload_n 2, 1) := by decide +kernel
theorem dX8_doneBy_4 : decode cX8_doneBy 4 = .ok (.if_icmp .gt 32, 3) := by decide +kernel
theorem dX8_doneBy_7 : decode cX8_doneBy 7 = .ok (.aload_n 0, 1) := by decide +kernel
theorem dX8_doneBy_8 : decode cX8_doneBy 8 = .ok (.getfield 25, 3) := by decide +kernel
theorem dX8_doneBy_11 : decode cX8_doneBy 11 = .ok (.iload_n 1, 1) := by decide +kernel
theorem dX8_doneBy_12 : decode cX8_doneBy 12 = .ok (.invokestatic 186, 3) := by decide +kernel
theorem dX8_doneBy_15 : decode cX8_doneBy 15 = .ok (.ifCond .eq 5, 3) := by decide +kernel
theorem dX8_doneBy_18 : decode cX8_doneBy 18 = .ok (.iload_n 3, 1) := by decide +kernel
theorem dX8_doneBy_19 : decode cX8_doneBy 19 = .ok (.ireturn, 1) := by decide +kernel
theorem dX8_doneBy_20 : decode cX8_doneBy 20 = .ok (.aload_n 0, 1) := by decide +kernel
theorem dX8_doneBy_21 : decode cX8_doneBy 21 = .ok (.aload_n 0, 1) := by decide +kernel
theorem dX8_doneBy_22 : decode cX8_doneBy 22 = .ok (.getfield 25, 3) := by decide +kernel
theorem dX8_doneBy_25 : decode cX8_doneBy 25 = .ok (.invokevirtual 182, 3) := by decide +kernel
theorem dX8_doneBy_28 : decode cX8_doneBy 28 = .ok (.istore 4, 2) := by decide +kernel
theorem dX8_doneBy_30 : decode cX8_doneBy 30 = .ok (.iinc 3 1, 3) := by decide +kernel
theorem dX8_doneBy_33 : decode cX8_doneBy 33 = .ok (.goto (-31), 3) := by decide +kernel
theorem dX8_doneBy_36 : decode cX8_doneBy 36 = .ok (.ldc 96, 2) := by decide +kernel
theorem dX8_doneBy_38 : decode cX8_doneBy 38 = .ok (.ireturn, 1) := by decide +kernel
theorem dX8_keep_0 : decode cX8_keep 0 = .ok (.aload_n 0, 1) := by decide +kernel
theorem dX8_keep_1 : decode cX8_keep 1 = .ok (.getfield 152, 3) := by decide +kernel
theorem dX8_keep_4 : decode cX8_keep 4 = .ok (.bipush 24, 2) := by decide +kernel
theorem dX8_keep_6 : decode cX8_keep 6 = .ok (.if_icmp .ne 43, 3) := by decide +kernel
theorem dX8_keep_9 : decode cX8_keep 9 = .ok (.iconst 0, 1) := by decide +kernel
theorem dX8_keep_10 : decode cX8_keep 10 = .ok (.istore_n 1, 1) := by decide +kernel
theorem dX8_keep_11 : decode cX8_keep 11 = .ok (.iload_n 1, 1) := by decide +kernel
theorem dX8_keep_12 : decode cX8_keep 12 = .ok (.sipush 943, 3) := by decide +kernel
theorem dX8_keep_15 : decode cX8_keep 15 = .ok (.if_icmp .ge 24, 3) := by decide +kernel
theorem dX8_keep_18 : decode cX8_keep 18 = .ok (.aload_n 0, 1) := by decide +kernel
theorem dX8_keep_19 : decode cX8_keep 19 = .ok (.getfield 28, 3) := by decide +kernel
theorem dX8_keep_22 : decode cX8_keep 22 = .ok (.iload_n 1, 1) := by decide +kernel
theorem dX8_keep_23 : decode cX8_keep 23 = .ok (.aload_n 0, 1) := by decide +kernel
theorem dX8_keep_24 : decode cX8_keep 24 = .ok (.getfield 28, 3) := by decide +kernel
theorem dX8_keep_27 : decode cX8_keep 27 = .ok (.iload_n 1, 1) := by decide +kernel
theorem dX8_keep_28 : decode cX8_keep 28 = .ok (.bipush 41, 2) := by decide +kernel
theorem dX8_keep_30 : decode cX8_keep 30 = .ok (.iadd, 1) := by decide +kernel
theorem dX8_keep_31 : decode cX8_keep 31 = .ok (.iaload, 1) := by decide +kernel
theorem dX8_keep_32 : decode cX8_keep 32 = .ok (.iastore, 1) := by decide +kernel
theorem dX8_keep_33 : decode cX8_keep 33 = .ok (.iinc 1 1, 3) := by decide +kernel
theorem dX8_keep_36 : decode cX8_keep 36 = .ok (.goto (-25), 3) := by decide +kernel
theorem dX8_keep_39 : decode cX8_keep 39 = .ok (.aload_n 0, 1) := by decide +kernel
theorem dX8_keep_40 : decode cX8_keep 40 = .ok (.dup, 1) := by decide +kernel
theorem dX8_keep_41 : decode cX8_keep 41 = .ok (.getfield 152, 3) := by decide +kernel
theorem dX8_keep_44 : decode cX8_keep 44 = .ok (.iconst 1, 1) := by decide +kernel
theorem dX8_keep_45 : decode cX8_keep 45 = .ok (.isub, 1) := by decide +kernel
theorem dX8_keep_46 : decode cX8_keep 46 = .ok (.putfield 152, 3) := by decide +kernel
theorem dX8_keep_49 : decode cX8_keep 49 = .ok (.iconst 0, 1) := by decide +kernel
theorem dX8_keep_50 : decode cX8_keep 50 = .ok (.istore_n 1, 1) := by decide +kernel
theorem dX8_keep_51 : decode cX8_keep 51 = .ok (.iload_n 1, 1) := by decide +kernel
theorem dX8_keep_52 : decode cX8_keep 52 = .ok (.bipush 41, 2) := by decide +kernel
theorem dX8_keep_54 : decode cX8_keep 54 = .ok (.if_icmp .ge 29, 3) := by decide +kernel
theorem dX8_keep_57 : decode cX8_keep 57 = .ok (.aload_n 0, 1) := by decide +kernel
theorem dX8_keep_58 : decode cX8_keep 58 = .ok (.getfield 28, 3) := by decide +kernel
theorem dX8_keep_61 : decode cX8_keep 61 = .ok (.bipush 41, 2) := by decide +kernel
theorem dX8_keep_63 : decode cX8_keep 63 = .ok (.aload_n 0, 1) := by decide +kernel
theorem dX8_keep_64 : decode cX8_keep 64 = .ok (.getfield 152, 3) := by decide +kernel
theorem dX8_keep_67 : decode cX8_keep 67 = .ok (.imul, 1) := by decide +kernel
theorem dX8_keep_68 : decode cX8_keep 68 = .ok (.iload_n 1, 1) := by decide +kernel
theorem dX8_keep_69 : decode cX8_keep 69 = .ok (.iadd, 1) := by decide +kernel
theorem dX8_keep_70 : decode cX8_keep 70 = .ok (.aload_n 0, 1) := by decide +kernel
theorem dX8_keep_71 : decode cX8_keep 71 = .ok (.getfield 19, 3) := by decide +kernel
theorem dX8_keep_74 : decode cX8_keep 74 = .ok (.iload_n 1, 1) := by decide +kernel
theorem dX8_keep_75 : decode cX8_keep 75 = .ok (.iaload, 1) := by decide +kernel
theorem dX8_keep_76 : decode cX8_keep 76 = .ok (.iastore, 1) := by decide +kernel
theorem dX8_keep_77 : decode cX8_keep 77 = .ok (.iinc 1 1, 3) := by decide +kernel
theorem dX8_keep_80 : decode cX8_keep 80 = .ok (.goto (-29), 3) := by decide +kernel
theorem dX8_keep_83 : decode cX8_keep 83 = .ok (.aload_n 0, 1) := by decide +kernel
theorem dX8_keep_84 : decode cX8_keep 84 = .ok (.dup, 1) := by decide +kernel
theorem dX8_keep_85 : decode cX8_keep 85 = .ok (.getfield 152, 3) := by decide +kernel
theorem dX8_keep_88 : decode cX8_keep 88 = .ok (.iconst 1, 1) := by decide +kernel
theorem dX8_keep_89 : decode cX8_keep 89 = .ok (.iadd, 1) := by decide +kernel
theorem dX8_keep_90 : decode cX8_keep 90 = .ok (.putfield 152, 3) := by decide +kernel
theorem dX8_keep_93 : decode cX8_keep 93 = .ok (.return_, 1) := by decide +kernel
theorem dX8_hours_0 : decode cX8_hours 0 = .ok (.aload_n 0, 1) := by decide +kernel
theorem dX8_hours_1 : decode cX8_hours 1 = .ok (.iconst 0, 1) := by decide +kernel
theorem dX8_hours_2 : decode cX8_hours 2 = .ok (.putfield 53, 3) := by decide +kernel
theorem dX8_hours_5 : decode cX8_hours 5 = .ok (.aload_n 0, 1) := by decide +kernel
theorem dX8_hours_6 : decode cX8_hours 6 = .ok (.invokevirtual 155, 3) := by decide +kernel
theorem dX8_hours_9 : decode cX8_hours 9 = .ok (.ifCond .ne 6, 3) := by decide +kernel
theorem dX8_hours_12 : decode cX8_hours 12 = .ok (.ldc 189, 2) := by decide +kernel
theorem dX8_hours_14 : decode cX8_hours 14 = .ok (.ireturn, 1) := by decide +kernel
theorem dX8_hours_15 : decode cX8_hours 15 = .ok (.iload_n 1, 1) := by decide +kernel
theorem dX8_hours_16 : decode cX8_hours 16 = .ok (.i2l, 1) := by decide +kernel
theorem dX8_hours_17 : decode cX8_hours 17 = .ok (.lconst 1, 1) := by decide +kernel
theorem dX8_hours_18 : decode cX8_hours 18 = .ok (.ldc2_w 190, 3) := by decide +kernel
theorem dX8_hours_21 : decode cX8_hours 21 = .ok (.invokestatic 63, 3) := by decide +kernel
theorem dX8_hours_24 : decode cX8_hours 24 = .ok (.ifCond .ne 6, 3) := by decide +kernel
theorem dX8_hours_27 : decode cX8_hours 27 = .ok (.ldc 73, 2) := by decide +kernel
theorem dX8_hours_29 : decode cX8_hours 29 = .ok (.ireturn, 1) := by decide +kernel
theorem dX8_hours_30 : decode cX8_hours 30 = .ok (.aload_n 0, 1) := by decide +kernel
theorem dX8_hours_31 : decode cX8_hours 31 = .ok (.getfield 19, 3) := by decide +kernel
theorem dX8_hours_34 : decode cX8_hours 34 = .ok (.iconst 3, 1) := by decide +kernel
theorem dX8_hours_35 : decode cX8_hours 35 = .ok (.iaload, 1) := by decide +kernel
theorem dX8_hours_36 : decode cX8_hours 36 = .ok (.iload_n 1, 1) := by decide +kernel
theorem dX8_hours_37 : decode cX8_hours 37 = .ok (.iadd, 1) := by decide +kernel
theorem dX8_hours_38 : decode cX8_hours 38 = .ok (.sipush 999, 3) := by decide +kernel
theorem dX8_hours_41 : decode cX8_hours 41 = .ok (.if_icmp .le 6, 3) := by decide +kernel
theorem dX8_hours_44 : decode cX8_hours 44 = .ok (.ldc 83, 2) := by decide +kernel
theorem dX8_hours_46 : decode cX8_hours 46 = .ok (.ireturn, 1) := by decide +kernel
theorem dX8_hours_47 : decode cX8_hours 47 = .ok (.iconst 0, 1) := by decide +kernel
theorem dX8_hours_48 : decode cX8_hours 48 = .ok (.istore_n 2, 1) := by decide +kernel
theorem dX8_hours_49 : decode cX8_hours 49 = .ok (.iload_n 2, 1) := by decide +kernel
theorem dX8_hours_50 : decode cX8_hours 50 = .ok (.iload_n 1, 1) := by decide +kernel
theorem dX8_hours_51 : decode cX8_hours 51 = .ok (.if_icmp .ge 22, 3) := by decide +kernel
theorem dX8_hours_54 : decode cX8_hours 54 = .ok (.aload_n 0, 1) := by decide +kernel
theorem dX8_hours_55 : decode cX8_hours 55 = .ok (.invokevirtual 192, 3) := by decide +kernel
theorem dX8_hours_58 : decode cX8_hours 58 = .ok (.aload_n 0, 1) := by decide +kernel
theorem dX8_hours_59 : decode cX8_hours 59 = .ok (.aload_n 0, 1) := by decide +kernel
theorem dX8_hours_60 : decode cX8_hours 60 = .ok (.getfield 19, 3) := by decide +kernel
theorem dX8_hours_63 : decode cX8_hours 63 = .ok (.invokevirtual 182, 3) := by decide +kernel
theorem dX8_hours_66 : decode cX8_hours 66 = .ok (.istore_n 3, 1) := by decide +kernel
theorem dX8_hours_67 : decode cX8_hours 67 = .ok (.iinc 2 1, 3) := by decide +kernel
theorem dX8_hours_70 : decode cX8_hours 70 = .ok (.goto (-21), 3) := by decide +kernel
theorem dX8_hours_73 : decode cX8_hours 73 = .ok (.aload_n 0, 1) := by decide +kernel
theorem dX8_hours_74 : decode cX8_hours 74 = .ok (.getfield 19, 3) := by decide +kernel
theorem dX8_hours_77 : decode cX8_hours 77 = .ok (.invokestatic 195, 3) := by decide +kernel
theorem dX8_hours_80 : decode cX8_hours 80 = .ok (.ireturn, 1) := by decide +kernel
theorem dX8_post_0 : decode cX8_post 0 = .ok (.aload_n 0, 1) := by decide +kernel
theorem dX8_post_1 : decode cX8_post 1 = .ok (.iconst 0, 1) := by decide +kernel
theorem dX8_post_2 : decode cX8_post 2 = .ok (.putfield 53, 3) := by decide +kernel
theorem dX8_post_5 : decode cX8_post 5 = .ok (.aload_n 0, 1) := by decide +kernel
theorem dX8_post_6 : decode cX8_post 6 = .ok (.iload_n 1, 1) := by decide +kernel
theorem dX8_post_7 : decode cX8_post 7 = .ok (.invokevirtual 198, 3) := by decide +kernel
theorem dX8_post_10 : decode cX8_post 10 = .ok (.ifCond .eq 19, 3) := by decide +kernel
theorem dX8_post_13 : decode cX8_post 13 = .ok (.aload_n 0, 1) := by decide +kernel
theorem dX8_post_14 : decode cX8_post 14 = .ok (.iload_n 2, 1) := by decide +kernel
theorem dX8_post_15 : decode cX8_post 15 = .ok (.invokevirtual 201, 3) := by decide +kernel
theorem dX8_post_18 : decode cX8_post 18 = .ok (.ifCond .eq 11, 3) := by decide +kernel
theorem dX8_post_21 : decode cX8_post 21 = .ok (.aload_n 0, 1) := by decide +kernel
theorem dX8_post_22 : decode cX8_post 22 = .ok (.iload_n 3, 1) := by decide +kernel
theorem dX8_post_23 : decode cX8_post 23 = .ok (.invokevirtual 201, 3) := by decide +kernel
theorem dX8_post_26 : decode cX8_post 26 = .ok (.ifCond .ne 6, 3) := by decide +kernel
theorem dX8_post_29 : decode cX8_post 29 = .ok (.ldc 73, 2) := by decide +kernel
theorem dX8_post_31 : decode cX8_post 31 = .ok (.ireturn, 1) := by decide +kernel
theorem dX8_post_32 : decode cX8_post 32 = .ok (.aload_n 0, 1) := by decide +kernel
theorem dX8_post_33 : decode cX8_post 33 = .ok (.invokevirtual 192, 3) := by decide +kernel
theorem dX8_post_36 : decode cX8_post 36 = .ok (.aload_n 0, 1) := by decide +kernel
theorem dX8_post_37 : decode cX8_post 37 = .ok (.getfield 19, 3) := by decide +kernel
theorem dX8_post_40 : decode cX8_post 40 = .ok (.iload_n 1, 1) := by decide +kernel
theorem dX8_post_41 : decode cX8_post 41 = .ok (.iload_n 2, 1) := by decide +kernel
theorem dX8_post_42 : decode cX8_post 42 = .ok (.iload_n 3, 1) := by decide +kernel
theorem dX8_post_43 : decode cX8_post 43 = .ok (.invokestatic 204, 3) := by decide +kernel
theorem dX8_post_46 : decode cX8_post 46 = .ok (.aload_n 0, 1) := by decide +kernel
theorem dX8_post_47 : decode cX8_post 47 = .ok (.getfield 19, 3) := by decide +kernel
theorem dX8_post_50 : decode cX8_post 50 = .ok (.invokestatic 208, 3) := by decide +kernel
theorem dX8_post_53 : decode cX8_post 53 = .ok (.ireturn, 1) := by decide +kernel
theorem dX8_callBack_0 : decode cX8_callBack 0 = .ok (.aload_n 0, 1) := by decide +kernel
theorem dX8_callBack_1 : decode cX8_callBack 1 = .ok (.iconst 0, 1) := by decide +kernel
theorem dX8_callBack_2 : decode cX8_callBack 2 = .ok (.putfield 53, 3) := by decide +kernel
theorem dX8_callBack_5 : decode cX8_callBack 5 = .ok (.aload_n 0, 1) := by decide +kernel
theorem dX8_callBack_6 : decode cX8_callBack 6 = .ok (.iload_n 1, 1) := by decide +kernel
theorem dX8_callBack_7 : decode cX8_callBack 7 = .ok (.invokevirtual 198, 3) := by decide +kernel
theorem dX8_callBack_10 : decode cX8_callBack 10 = .ok (.ifCond .ne 6, 3) := by decide +kernel
theorem dX8_callBack_13 : decode cX8_callBack 13 = .ok (.ldc 73, 2) := by decide +kernel
theorem dX8_callBack_15 : decode cX8_callBack 15 = .ok (.ireturn, 1) := by decide +kernel
theorem dX8_callBack_16 : decode cX8_callBack 16 = .ok (.aload_n 0, 1) := by decide +kernel
theorem dX8_callBack_17 : decode cX8_callBack 17 = .ok (.getfield 19, 3) := by decide +kernel
theorem dX8_callBack_20 : decode cX8_callBack 20 = .ok (.iload_n 1, 1) := by decide +kernel
theorem dX8_callBack_21 : decode cX8_callBack 21 = .ok (.invokestatic 164, 3) := by decide +kernel
theorem dX8_callBack_24 : decode cX8_callBack 24 = .ok (.ifCond .ne 6, 3) := by decide +kernel
theorem dX8_callBack_27 : decode cX8_callBack 27 = .ok (.ldc 189, 2) := by decide +kernel
theorem dX8_callBack_29 : decode cX8_callBack 29 = .ok (.ireturn, 1) := by decide +kernel
theorem dX8_callBack_30 : decode cX8_callBack 30 = .ok (.aload_n 0, 1) := by decide +kernel
theorem dX8_callBack_31 : decode cX8_callBack 31 = .ok (.invokevirtual 192, 3) := by decide +kernel
theorem dX8_callBack_34 : decode cX8_callBack 34 = .ok (.aload_n 0, 1) := by decide +kernel
theorem dX8_callBack_35 : decode cX8_callBack 35 = .ok (.getfield 19, 3) := by decide +kernel
theorem dX8_callBack_38 : decode cX8_callBack 38 = .ok (.iload_n 1, 1) := by decide +kernel
theorem dX8_callBack_39 : decode cX8_callBack 39 = .ok (.iconst 1, 1) := by decide +kernel
theorem dX8_callBack_40 : decode cX8_callBack 40 = .ok (.invokestatic 160, 3) := by decide +kernel
theorem dX8_callBack_43 : decode cX8_callBack 43 = .ok (.istore_n 2, 1) := by decide +kernel
theorem dX8_callBack_44 : decode cX8_callBack 44 = .ok (.iconst 0, 1) := by decide +kernel
theorem dX8_callBack_45 : decode cX8_callBack 45 = .ok (.istore_n 3, 1) := by decide +kernel
theorem dX8_callBack_46 : decode cX8_callBack 46 = .ok (.iload_n 3, 1) := by decide +kernel
theorem dX8_callBack_47 : decode cX8_callBack 47 = .ok (.iconst 3, 1) := by decide +kernel
theorem dX8_callBack_48 : decode cX8_callBack 48 = .ok (.if_icmp .ge 22, 3) := by decide +kernel
theorem dX8_callBack_51 : decode cX8_callBack 51 = .ok (.aload_n 0, 1) := by decide +kernel
theorem dX8_callBack_52 : decode cX8_callBack 52 = .ok (.getfield 19, 3) := by decide +kernel
theorem dX8_callBack_55 : decode cX8_callBack 55 = .ok (.iconst 5, 1) := by decide +kernel
theorem dX8_callBack_56 : decode cX8_callBack 56 = .ok (.iconst 3, 1) := by decide +kernel
theorem dX8_callBack_57 : decode cX8_callBack 57 = .ok (.iload_n 1, 1) := by decide +kernel
theorem dX8_callBack_58 : decode cX8_callBack 58 = .ok (.imul, 1) := by decide +kernel
theorem dX8_callBack_59 : decode cX8_callBack 59 = .ok (.iadd, 1) := by decide +kernel
theorem dX8_callBack_60 : decode cX8_callBack 60 = .ok (.iload_n 3, 1) := by decide +kernel
theorem dX8_callBack_61 : decode cX8_callBack 61 = .ok (.iadd, 1) := by decide +kernel
theorem dX8_callBack_62 : decode cX8_callBack 62 = .ok (.iconst 0, 1) := by decide +kernel
theorem dX8_callBack_63 : decode cX8_callBack 63 = .ok (.iastore, 1) := by decide +kernel
theorem dX8_callBack_64 : decode cX8_callBack 64 = .ok (.iinc 3 1, 3) := by decide +kernel
theorem dX8_callBack_67 : decode cX8_callBack 67 = .ok (.goto (-21), 3) := by decide +kernel
theorem dX8_callBack_70 : decode cX8_callBack 70 = .ok (.iload_n 2, 1) := by decide +kernel
theorem dX8_callBack_71 : decode cX8_callBack 71 = .ok (.ireturn, 1) := by decide +kernel
theorem dX8_begin_0 : decode cX8_begin 0 = .ok (.aload_n 0, 1) := by decide +kernel
theorem dX8_begin_1 : decode cX8_begin 1 = .ok (.iconst 0, 1) := by decide +kernel
theorem dX8_begin_2 : decode cX8_begin 2 = .ok (.putfield 53, 3) := by decide +kernel
theorem dX8_begin_5 : decode cX8_begin 5 = .ok (.aload_n 0, 1) := by decide +kernel
theorem dX8_begin_6 : decode cX8_begin 6 = .ok (.iload_n 1, 1) := by decide +kernel
theorem dX8_begin_7 : decode cX8_begin 7 = .ok (.invokevirtual 211, 3) := by decide +kernel
theorem dX8_begin_10 : decode cX8_begin 10 = .ok (.ifCond .eq 15, 3) := by decide +kernel
theorem dX8_begin_13 : decode cX8_begin 13 = .ok (.iload_n 2, 1) := by decide +kernel
theorem dX8_begin_14 : decode cX8_begin 14 = .ok (.i2l, 1) := by decide +kernel
theorem dX8_begin_15 : decode cX8_begin 15 = .ok (.lconst 0, 1) := by decide +kernel
theorem dX8_begin_16 : decode cX8_begin 16 = .ok (.ldc2_w 214, 3) := by decide +kernel
theorem dX8_begin_19 : decode cX8_begin 19 = .ok (.invokestatic 63, 3) := by decide +kernel
theorem dX8_begin_22 : decode cX8_begin 22 = .ok (.ifCond .ne 6, 3) := by decide +kernel
theorem dX8_begin_25 : decode cX8_begin 25 = .ok (.ldc 73, 2) := by decide +kernel
theorem dX8_begin_27 : decode cX8_begin 27 = .ok (.ireturn, 1) := by decide +kernel
theorem dX8_begin_28 : decode cX8_begin 28 = .ok (.aload_n 0, 1) := by decide +kernel
theorem dX8_begin_29 : decode cX8_begin 29 = .ok (.invokevirtual 192, 3) := by decide +kernel
theorem dX8_begin_32 : decode cX8_begin 32 = .ok (.aload_n 0, 1) := by decide +kernel
theorem dX8_begin_33 : decode cX8_begin 33 = .ok (.getfield 19, 3) := by decide +kernel
theorem dX8_begin_36 : decode cX8_begin 36 = .ok (.iload_n 1, 1) := by decide +kernel
theorem dX8_begin_37 : decode cX8_begin 37 = .ok (.iconst 3, 1) := by decide +kernel
theorem dX8_begin_38 : decode cX8_begin 38 = .ok (.invokestatic 168, 3) := by decide +kernel
theorem dX8_begin_41 : decode cX8_begin 41 = .ok (.istore_n 3, 1) := by decide +kernel
theorem dX8_begin_42 : decode cX8_begin 42 = .ok (.aload_n 0, 1) := by decide +kernel
theorem dX8_begin_43 : decode cX8_begin 43 = .ok (.getfield 19, 3) := by decide +kernel
theorem dX8_begin_46 : decode cX8_begin 46 = .ok (.bipush 17, 2) := by decide +kernel
theorem dX8_begin_48 : decode cX8_begin 48 = .ok (.iconst 4, 1) := by decide +kernel
theorem dX8_begin_49 : decode cX8_begin 49 = .ok (.iload_n 1, 1) := by decide +kernel
theorem dX8_begin_50 : decode cX8_begin 50 = .ok (.imul, 1) := by decide +kernel
theorem dX8_begin_51 : decode cX8_begin 51 = .ok (.iadd, 1) := by decide +kernel
theorem dX8_begin_52 : decode cX8_begin 52 = .ok (.iconst 3, 1) := by decide +kernel
theorem dX8_begin_53 : decode cX8_begin 53 = .ok (.iadd, 1) := by decide +kernel
theorem dX8_begin_54 : decode cX8_begin 54 = .ok (.iload_n 2, 1) := by decide +kernel
theorem dX8_begin_55 : decode cX8_begin 55 = .ok (.iastore, 1) := by decide +kernel
theorem dX8_begin_56 : decode cX8_begin 56 = .ok (.iload_n 3, 1) := by decide +kernel
theorem dX8_begin_57 : decode cX8_begin 57 = .ok (.ireturn, 1) := by decide +kernel
theorem dX8_stay_0 : decode cX8_stay 0 = .ok (.aload_n 0, 1) := by decide +kernel
theorem dX8_stay_1 : decode cX8_stay 1 = .ok (.iconst 0, 1) := by decide +kernel
theorem dX8_stay_2 : decode cX8_stay 2 = .ok (.putfield 53, 3) := by decide +kernel
theorem dX8_stay_5 : decode cX8_stay 5 = .ok (.aload_n 0, 1) := by decide +kernel
theorem dX8_stay_6 : decode cX8_stay 6 = .ok (.iload_n 1, 1) := by decide +kernel
theorem dX8_stay_7 : decode cX8_stay 7 = .ok (.invokevirtual 211, 3) := by decide +kernel
theorem dX8_stay_10 : decode cX8_stay 10 = .ok (.ifCond .eq 13, 3) := by decide +kernel
theorem dX8_stay_13 : decode cX8_stay 13 = .ok (.iload_n 2, 1) := by decide +kernel
theorem dX8_stay_14 : decode cX8_stay 14 = .ok (.i2l, 1) := by decide +kernel
theorem dX8_stay_15 : decode cX8_stay 15 = .ok (.lconst 0, 1) := by decide +kernel
theorem dX8_stay_16 : decode cX8_stay 16 = .ok (.lconst 1, 1) := by decide +kernel
theorem dX8_stay_17 : decode cX8_stay 17 = .ok (.invokestatic 63, 3) := by decide +kernel
theorem dX8_stay_20 : decode cX8_stay 20 = .ok (.ifCond .ne 6, 3) := by decide +kernel
theorem dX8_stay_23 : decode cX8_stay 23 = .ok (.ldc 73, 2) := by decide +kernel
theorem dX8_stay_25 : decode cX8_stay 25 = .ok (.ireturn, 1) := by decide +kernel
theorem dX8_stay_26 : decode cX8_stay 26 = .ok (.aload_n 0, 1) := by decide +kernel
theorem dX8_stay_27 : decode cX8_stay 27 = .ok (.getfield 19, 3) := by decide +kernel
theorem dX8_stay_30 : decode cX8_stay 30 = .ok (.iconst 4, 1) := by decide +kernel
theorem dX8_stay_31 : decode cX8_stay 31 = .ok (.iaload, 1) := by decide +kernel
theorem dX8_stay_32 : decode cX8_stay 32 = .ok (.iload_n 1, 1) := by decide +kernel
theorem dX8_stay_33 : decode cX8_stay 33 = .ok (.ishr, 1) := by decide +kernel
theorem dX8_stay_34 : decode cX8_stay 34 = .ok (.iconst 1, 1) := by decide +kernel
theorem dX8_stay_35 : decode cX8_stay 35 = .ok (.iand, 1) := by decide +kernel
theorem dX8_stay_36 : decode cX8_stay 36 = .ok (.iload_n 2, 1) := by decide +kernel
theorem dX8_stay_37 : decode cX8_stay 37 = .ok (.if_icmp .ne 6, 3) := by decide +kernel
theorem dX8_stay_40 : decode cX8_stay 40 = .ok (.ldc 189, 2) := by decide +kernel
theorem dX8_stay_42 : decode cX8_stay 42 = .ok (.ireturn, 1) := by decide +kernel
theorem dX8_stay_43 : decode cX8_stay 43 = .ok (.aload_n 0, 1) := by decide +kernel
theorem dX8_stay_44 : decode cX8_stay 44 = .ok (.invokevirtual 192, 3) := by decide +kernel
theorem dX8_stay_47 : decode cX8_stay 47 = .ok (.aload_n 0, 1) := by decide +kernel
theorem dX8_stay_48 : decode cX8_stay 48 = .ok (.getfield 19, 3) := by decide +kernel
theorem dX8_stay_51 : decode cX8_stay 51 = .ok (.iconst 4, 1) := by decide +kernel
theorem dX8_stay_52 : decode cX8_stay 52 = .ok (.dup2, 1) := by decide +kernel
theorem dX8_stay_53 : decode cX8_stay 53 = .ok (.iaload, 1) := by decide +kernel
theorem dX8_stay_54 : decode cX8_stay 54 = .ok (.iconst 1, 1) := by decide +kernel
theorem dX8_stay_55 : decode cX8_stay 55 = .ok (.iload_n 1, 1) := by decide +kernel
theorem dX8_stay_56 : decode cX8_stay 56 = .ok (.ishl, 1) := by decide +kernel
theorem dX8_stay_57 : decode cX8_stay 57 = .ok (.ixor, 1) := by decide +kernel
theorem dX8_stay_58 : decode cX8_stay 58 = .ok (.iastore, 1) := by decide +kernel
theorem dX8_stay_59 : decode cX8_stay 59 = .ok (.aload_n 0, 1) := by decide +kernel
theorem dX8_stay_60 : decode cX8_stay 60 = .ok (.getfield 19, 3) := by decide +kernel
theorem dX8_stay_63 : decode cX8_stay 63 = .ok (.iconst 4, 1) := by decide +kernel
theorem dX8_stay_64 : decode cX8_stay 64 = .ok (.iaload, 1) := by decide +kernel
theorem dX8_stay_65 : decode cX8_stay 65 = .ok (.ireturn, 1) := by decide +kernel
theorem dX8_undo_0 : decode cX8_undo 0 = .ok (.aload_n 0, 1) := by decide +kernel
theorem dX8_undo_1 : decode cX8_undo 1 = .ok (.iconst 0, 1) := by decide +kernel
theorem dX8_undo_2 : decode cX8_undo 2 = .ok (.putfield 53, 3) := by decide +kernel
theorem dX8_undo_5 : decode cX8_undo 5 = .ok (.aload_n 0, 1) := by decide +kernel
theorem dX8_undo_6 : decode cX8_undo 6 = .ok (.getfield 152, 3) := by decide +kernel
theorem dX8_undo_9 : decode cX8_undo 9 = .ok (.ifCond .ne 6, 3) := by decide +kernel
theorem dX8_undo_12 : decode cX8_undo 12 = .ok (.ldc 189, 2) := by decide +kernel
theorem dX8_undo_14 : decode cX8_undo 14 = .ok (.ireturn, 1) := by decide +kernel
theorem dX8_undo_15 : decode cX8_undo 15 = .ok (.aload_n 0, 1) := by decide +kernel
theorem dX8_undo_16 : decode cX8_undo 16 = .ok (.dup, 1) := by decide +kernel
theorem dX8_undo_17 : decode cX8_undo 17 = .ok (.getfield 152, 3) := by decide +kernel
theorem dX8_undo_20 : decode cX8_undo 20 = .ok (.iconst 1, 1) := by decide +kernel
theorem dX8_undo_21 : decode cX8_undo 21 = .ok (.isub, 1) := by decide +kernel
theorem dX8_undo_22 : decode cX8_undo 22 = .ok (.putfield 152, 3) := by decide +kernel
theorem dX8_undo_25 : decode cX8_undo 25 = .ok (.iconst 0, 1) := by decide +kernel
theorem dX8_undo_26 : decode cX8_undo 26 = .ok (.istore_n 1, 1) := by decide +kernel
theorem dX8_undo_27 : decode cX8_undo 27 = .ok (.iload_n 1, 1) := by decide +kernel
theorem dX8_undo_28 : decode cX8_undo 28 = .ok (.bipush 41, 2) := by decide +kernel
theorem dX8_undo_30 : decode cX8_undo 30 = .ok (.if_icmp .ge 29, 3) := by decide +kernel
theorem dX8_undo_33 : decode cX8_undo 33 = .ok (.aload_n 0, 1) := by decide +kernel
theorem dX8_undo_34 : decode cX8_undo 34 = .ok (.getfield 19, 3) := by decide +kernel
theorem dX8_undo_37 : decode cX8_undo 37 = .ok (.iload_n 1, 1) := by decide +kernel
theorem dX8_undo_38 : decode cX8_undo 38 = .ok (.aload_n 0, 1) := by decide +kernel
theorem dX8_undo_39 : decode cX8_undo 39 = .ok (.getfield 28, 3) := by decide +kernel
theorem dX8_undo_42 : decode cX8_undo 42 = .ok (.bipush 41, 2) := by decide +kernel
theorem dX8_undo_44 : decode cX8_undo 44 = .ok (.aload_n 0, 1) := by decide +kernel
theorem dX8_undo_45 : decode cX8_undo 45 = .ok (.getfield 152, 3) := by decide +kernel
theorem dX8_undo_48 : decode cX8_undo 48 = .ok (.imul, 1) := by decide +kernel
theorem dX8_undo_49 : decode cX8_undo 49 = .ok (.iload_n 1, 1) := by decide +kernel
theorem dX8_undo_50 : decode cX8_undo 50 = .ok (.iadd, 1) := by decide +kernel
theorem dX8_undo_51 : decode cX8_undo 51 = .ok (.iaload, 1) := by decide +kernel
theorem dX8_undo_52 : decode cX8_undo 52 = .ok (.iastore, 1) := by decide +kernel
theorem dX8_undo_53 : decode cX8_undo 53 = .ok (.iinc 1 1, 3) := by decide +kernel
theorem dX8_undo_56 : decode cX8_undo 56 = .ok (.goto (-29), 3) := by decide +kernel
theorem dX8_undo_59 : decode cX8_undo 59 = .ok (.aload_n 0, 1) := by decide +kernel
theorem dX8_undo_60 : decode cX8_undo 60 = .ok (.getfield 152, 3) := by decide +kernel
theorem dX8_undo_63 : decode cX8_undo 63 = .ok (.ireturn, 1) := by decide +kernel
theorem dX8_person_0 : decode cX8_person 0 = .ok (.aload_n 0, 1) := by decide +kernel
theorem dX8_person_1 : decode cX8_person 1 = .ok (.iconst 0, 1) := by decide +kernel
theorem dX8_person_2 : decode cX8_person 2 = .ok (.putfield 53, 3) := by decide +kernel
theorem dX8_person_5 : decode cX8_person 5 = .ok (.aload_n 0, 1) := by decide +kernel
theorem dX8_person_6 : decode cX8_person 6 = .ok (.iload_n 1, 1) := by decide +kernel
theorem dX8_person_7 : decode cX8_person 7 = .ok (.invokevirtual 211, 3) := by decide +kernel
theorem dX8_person_10 : decode cX8_person 10 = .ok (.ifCond .eq 15, 3) := by decide +kernel
theorem dX8_person_13 : decode cX8_person 13 = .ok (.iload_n 2, 1) := by decide +kernel
theorem dX8_person_14 : decode cX8_person 14 = .ok (.i2l, 1) := by decide +kernel
theorem dX8_person_15 : decode cX8_person 15 = .ok (.lconst 0, 1) := by decide +kernel
theorem dX8_person_16 : decode cX8_person 16 = .ok (.ldc2_w 216, 3) := by decide +kernel
theorem dX8_person_19 : decode cX8_person 19 = .ok (.invokestatic 63, 3) := by decide +kernel
theorem dX8_person_22 : decode cX8_person 22 = .ok (.ifCond .ne 6, 3) := by decide +kernel
theorem dX8_person_25 : decode cX8_person 25 = .ok (.ldc 73, 2) := by decide +kernel
theorem dX8_person_27 : decode cX8_person 27 = .ok (.ireturn, 1) := by decide +kernel
theorem dX8_person_28 : decode cX8_person 28 = .ok (.iload_n 2, 1) := by decide +kernel
theorem dX8_person_29 : decode cX8_person 29 = .ok (.iconst 3, 1) := by decide +kernel
theorem dX8_person_30 : decode cX8_person 30 = .ok (.if_icmp .ge 17, 3) := by decide +kernel
theorem dX8_person_33 : decode cX8_person 33 = .ok (.aload_n 0, 1) := by decide +kernel
theorem dX8_person_34 : decode cX8_person 34 = .ok (.getfield 19, 3) := by decide +kernel
theorem dX8_person_37 : decode cX8_person 37 = .ok (.iload_n 1, 1) := by decide +kernel
theorem dX8_person_38 : decode cX8_person 38 = .ok (.iconst 1, 1) := by decide +kernel
theorem dX8_person_39 : decode cX8_person 39 = .ok (.iload_n 2, 1) := by decide +kernel
theorem dX8_person_40 : decode cX8_person 40 = .ok (.iadd, 1) := by decide +kernel
theorem dX8_person_41 : decode cX8_person 41 = .ok (.invokestatic 168, 3) := by decide +kernel
theorem dX8_person_44 : decode cX8_person 44 = .ok (.goto 39, 3) := by decide +kernel
theorem dX8_person_47 : decode cX8_person 47 = .ok (.iload_n 2, 1) := by decide +kernel
theorem dX8_person_48 : decode cX8_person 48 = .ok (.iconst 5, 1) := by decide +kernel
theorem dX8_person_49 : decode cX8_person 49 = .ok (.if_icmp .ge 24, 3) := by decide +kernel
theorem dX8_person_52 : decode cX8_person 52 = .ok (.aload_n 0, 1) := by decide +kernel
theorem dX8_person_53 : decode cX8_person 53 = .ok (.getfield 19, 3) := by decide +kernel
theorem dX8_person_56 : decode cX8_person 56 = .ok (.iload_n 1, 1) := by decide +kernel
theorem dX8_person_57 : decode cX8_person 57 = .ok (.aload_n 0, 1) := by decide +kernel
theorem dX8_person_58 : decode cX8_person 58 = .ok (.getfield 19, 3) := by decide +kernel
theorem dX8_person_61 : decode cX8_person 61 = .ok (.iconst 3, 1) := by decide +kernel
theorem dX8_person_62 : decode cX8_person 62 = .ok (.iaload, 1) := by decide +kernel
theorem dX8_person_63 : decode cX8_person 63 = .ok (.iload_n 2, 1) := by decide +kernel
theorem dX8_person_64 : decode cX8_person 64 = .ok (.iadd, 1) := by decide +kernel
theorem dX8_person_65 : decode cX8_person 65 = .ok (.iconst 3, 1) := by decide +kernel
theorem dX8_person_66 : decode cX8_person 66 = .ok (.isub, 1) := by decide +kernel
theorem dX8_person_67 : decode cX8_person 67 = .ok (.invokestatic 175, 3) := by decide +kernel
theorem dX8_person_70 : decode cX8_person 70 = .ok (.goto 13, 3) := by decide +kernel
theorem dX8_person_73 : decode cX8_person 73 = .ok (.aload_n 0, 1) := by decide +kernel
theorem dX8_person_74 : decode cX8_person 74 = .ok (.getfield 19, 3) := by decide +kernel
theorem dX8_person_77 : decode cX8_person 77 = .ok (.iconst 4, 1) := by decide +kernel
theorem dX8_person_78 : decode cX8_person 78 = .ok (.iaload, 1) := by decide +kernel
theorem dX8_person_79 : decode cX8_person 79 = .ok (.iload_n 1, 1) := by decide +kernel
theorem dX8_person_80 : decode cX8_person 80 = .ok (.ishr, 1) := by decide +kernel
theorem dX8_person_81 : decode cX8_person 81 = .ok (.iconst 1, 1) := by decide +kernel
theorem dX8_person_82 : decode cX8_person 82 = .ok (.iand, 1) := by decide +kernel
theorem dX8_person_83 : decode cX8_person 83 = .ok (.ireturn, 1) := by decide +kernel
theorem dX8_letter_0 : decode cX8_letter 0 = .ok (.aload_n 0, 1) := by decide +kernel
theorem dX8_letter_1 : decode cX8_letter 1 = .ok (.iconst 0, 1) := by decide +kernel
theorem dX8_letter_2 : decode cX8_letter 2 = .ok (.putfield 53, 3) := by decide +kernel
theorem dX8_letter_5 : decode cX8_letter 5 = .ok (.aload_n 0, 1) := by decide +kernel
theorem dX8_letter_6 : decode cX8_letter 6 = .ok (.iload_n 1, 1) := by decide +kernel
theorem dX8_letter_7 : decode cX8_letter 7 = .ok (.invokevirtual 198, 3) := by decide +kernel
theorem dX8_letter_10 : decode cX8_letter 10 = .ok (.ifCond .eq 30, 3) := by decide +kernel
theorem dX8_letter_13 : decode cX8_letter 13 = .ok (.iload_n 2, 1) := by decide +kernel
theorem dX8_letter_14 : decode cX8_letter 14 = .ok (.i2l, 1) := by decide +kernel
theorem dX8_letter_15 : decode cX8_letter 15 = .ok (.lconst 0, 1) := by decide +kernel
theorem dX8_letter_16 : decode cX8_letter 16 = .ok (.ldc2_w 158, 3) := by decide +kernel
theorem dX8_letter_19 : decode cX8_letter 19 = .ok (.invokestatic 63, 3) := by decide +kernel
theorem dX8_letter_22 : decode cX8_letter 22 = .ok (.ifCond .eq 18, 3) := by decide +kernel
theorem dX8_letter_25 : decode cX8_letter 25 = .ok (.iload_n 2, 1) := by decide +kernel
theorem dX8_letter_26 : decode cX8_letter 26 = .ok (.ifCond .le 17, 3) := by decide +kernel
theorem dX8_letter_29 : decode cX8_letter 29 = .ok (.aload_n 0, 1) := by decide +kernel
theorem dX8_letter_30 : decode cX8_letter 30 = .ok (.getfield 19, 3) := by decide +kernel
theorem dX8_letter_33 : decode cX8_letter 33 = .ok (.iload_n 1, 1) := by decide +kernel
theorem dX8_letter_34 : decode cX8_letter 34 = .ok (.invokestatic 164, 3) := by decide +kernel
theorem dX8_letter_37 : decode cX8_letter 37 = .ok (.ifCond .ne 6, 3) := by decide +kernel
theorem dX8_letter_40 : decode cX8_letter 40 = .ok (.ldc 73, 2) := by decide +kernel
theorem dX8_letter_42 : decode cX8_letter 42 = .ok (.ireturn, 1) := by decide +kernel
theorem dX8_letter_43 : decode cX8_letter 43 = .ok (.aload_n 0, 1) := by decide +kernel
theorem dX8_letter_44 : decode cX8_letter 44 = .ok (.aload_n 0, 1) := by decide +kernel
theorem dX8_letter_45 : decode cX8_letter 45 = .ok (.getfield 19, 3) := by decide +kernel
theorem dX8_letter_48 : decode cX8_letter 48 = .ok (.invokevirtual 178, 3) := by decide +kernel
theorem dX8_letter_51 : decode cX8_letter 51 = .ok (.iload_n 2, 1) := by decide +kernel
theorem dX8_letter_52 : decode cX8_letter 52 = .ok (.iconst 3, 1) := by decide +kernel
theorem dX8_letter_53 : decode cX8_letter 53 = .ok (.if_icmp .ge 15, 3) := by decide +kernel
theorem dX8_letter_56 : decode cX8_letter 56 = .ok (.aload_n 0, 1) := by decide +kernel
theorem dX8_letter_57 : decode cX8_letter 57 = .ok (.getfield 19, 3) := by decide +kernel
theorem dX8_letter_60 : decode cX8_letter 60 = .ok (.iload_n 1, 1) := by decide +kernel
theorem dX8_letter_61 : decode cX8_letter 61 = .ok (.iload_n 2, 1) := by decide +kernel
theorem dX8_letter_62 : decode cX8_letter 62 = .ok (.invokestatic 160, 3) := by decide +kernel
theorem dX8_letter_65 : decode cX8_letter 65 = .ok (.goto 9, 3) := by decide +kernel
theorem dX8_letter_68 : decode cX8_letter 68 = .ok (.aload_n 0, 1) := by decide +kernel
theorem dX8_letter_69 : decode cX8_letter 69 = .ok (.getfield 34, 3) := by decide +kernel
theorem dX8_letter_72 : decode cX8_letter 72 = .ok (.iload_n 1, 1) := by decide +kernel
theorem dX8_letter_73 : decode cX8_letter 73 = .ok (.iaload, 1) := by decide +kernel
theorem dX8_letter_74 : decode cX8_letter 74 = .ok (.ireturn, 1) := by decide +kernel
theorem dX8_lane_0 : decode cX8_lane 0 = .ok (.aload_n 0, 1) := by decide +kernel
theorem dX8_lane_1 : decode cX8_lane 1 = .ok (.iconst 0, 1) := by decide +kernel
theorem dX8_lane_2 : decode cX8_lane 2 = .ok (.putfield 53, 3) := by decide +kernel
theorem dX8_lane_5 : decode cX8_lane 5 = .ok (.aload_n 0, 1) := by decide +kernel
theorem dX8_lane_6 : decode cX8_lane 6 = .ok (.iload_n 1, 1) := by decide +kernel
theorem dX8_lane_7 : decode cX8_lane 7 = .ok (.invokevirtual 201, 3) := by decide +kernel
theorem dX8_lane_10 : decode cX8_lane 10 = .ok (.ifCond .ne 6, 3) := by decide +kernel
theorem dX8_lane_13 : decode cX8_lane 13 = .ok (.ldc 73, 2) := by decide +kernel
theorem dX8_lane_15 : decode cX8_lane 15 = .ok (.ireturn, 1) := by decide +kernel
theorem dX8_lane_16 : decode cX8_lane 16 = .ok (.iconst 0, 1) := by decide +kernel
theorem dX8_lane_17 : decode cX8_lane 17 = .ok (.istore_n 2, 1) := by decide +kernel
theorem dX8_lane_18 : decode cX8_lane 18 = .ok (.iconst 0, 1) := by decide +kernel
theorem dX8_lane_19 : decode cX8_lane 19 = .ok (.istore_n 3, 1) := by decide +kernel
theorem dX8_lane_20 : decode cX8_lane 20 = .ok (.iload_n 3, 1) := by decide +kernel
theorem dX8_lane_21 : decode cX8_lane 21 = .ok (.aload_n 0, 1) := by decide +kernel
theorem dX8_lane_22 : decode cX8_lane 22 = .ok (.getfield 19, 3) := by decide +kernel
theorem dX8_lane_25 : decode cX8_lane 25 = .ok (.iconst 2, 1) := by decide +kernel
theorem dX8_lane_26 : decode cX8_lane 26 = .ok (.iaload, 1) := by decide +kernel
theorem dX8_lane_27 : decode cX8_lane 27 = .ok (.if_icmp .ge 37, 3) := by decide +kernel
theorem dX8_lane_30 : decode cX8_lane 30 = .ok (.iload_n 2, 1) := by decide +kernel
theorem dX8_lane_31 : decode cX8_lane 31 = .ok (.aload_n 0, 1) := by decide +kernel
theorem dX8_lane_32 : decode cX8_lane 32 = .ok (.getfield 19, 3) := by decide +kernel
theorem dX8_lane_35 : decode cX8_lane 35 = .ok (.iload_n 3, 1) := by decide +kernel
theorem dX8_lane_36 : decode cX8_lane 36 = .ok (.aload_n 0, 1) := by decide +kernel
theorem dX8_lane_37 : decode cX8_lane 37 = .ok (.getfield 19, 3) := by decide +kernel
theorem dX8_lane_40 : decode cX8_lane 40 = .ok (.iconst 3, 1) := by decide +kernel
theorem dX8_lane_41 : decode cX8_lane 41 = .ok (.iaload, 1) := by decide +kernel
theorem dX8_lane_42 : decode cX8_lane 42 = .ok (.invokestatic 175, 3) := by decide +kernel
theorem dX8_lane_45 : decode cX8_lane 45 = .ok (.iload_n 1, 1) := by decide +kernel
theorem dX8_lane_46 : decode cX8_lane 46 = .ok (.if_icmp .ne 9, 3) := by decide +kernel
theorem dX8_lane_49 : decode cX8_lane 49 = .ok (.iconst 1, 1) := by decide +kernel
theorem dX8_lane_50 : decode cX8_lane 50 = .ok (.iload_n 3, 1) := by decide +kernel
theorem dX8_lane_51 : decode cX8_lane 51 = .ok (.ishl, 1) := by decide +kernel
theorem dX8_lane_52 : decode cX8_lane 52 = .ok (.goto 4, 3) := by decide +kernel
theorem dX8_lane_55 : decode cX8_lane 55 = .ok (.iconst 0, 1) := by decide +kernel
theorem dX8_lane_56 : decode cX8_lane 56 = .ok (.ior, 1) := by decide +kernel
theorem dX8_lane_57 : decode cX8_lane 57 = .ok (.istore_n 2, 1) := by decide +kernel
theorem dX8_lane_58 : decode cX8_lane 58 = .ok (.iinc 3 1, 3) := by decide +kernel
theorem dX8_lane_61 : decode cX8_lane 61 = .ok (.goto (-41), 3) := by decide +kernel
theorem dX8_lane_64 : decode cX8_lane 64 = .ok (.iload_n 2, 1) := by decide +kernel
theorem dX8_lane_65 : decode cX8_lane 65 = .ok (.ireturn, 1) := by decide +kernel
theorem dX8_ahead_0 : decode cX8_ahead 0 = .ok (.aload_n 0, 1) := by decide +kernel
theorem dX8_ahead_1 : decode cX8_ahead 1 = .ok (.iconst 0, 1) := by decide +kernel
theorem dX8_ahead_2 : decode cX8_ahead 2 = .ok (.putfield 53, 3) := by decide +kernel
theorem dX8_ahead_5 : decode cX8_ahead 5 = .ok (.aload_n 0, 1) := by decide +kernel
theorem dX8_ahead_6 : decode cX8_ahead 6 = .ok (.iload_n 1, 1) := by decide +kernel
theorem dX8_ahead_7 : decode cX8_ahead 7 = .ok (.invokevirtual 211, 3) := by decide +kernel
theorem dX8_ahead_10 : decode cX8_ahead 10 = .ok (.ifCond .eq 34, 3) := by decide +kernel
theorem dX8_ahead_13 : decode cX8_ahead 13 = .ok (.iload_n 2, 1) := by decide +kernel
theorem dX8_ahead_14 : decode cX8_ahead 14 = .ok (.i2l, 1) := by decide +kernel
theorem dX8_ahead_15 : decode cX8_ahead 15 = .ok (.lconst 0, 1) := by decide +kernel
theorem dX8_ahead_16 : decode cX8_ahead 16 = .ok (.ldc2_w 218, 3) := by decide +kernel
theorem dX8_ahead_19 : decode cX8_ahead 19 = .ok (.invokestatic 63, 3) := by decide +kernel
theorem dX8_ahead_22 : decode cX8_ahead 22 = .ok (.ifCond .eq 22, 3) := by decide +kernel
theorem dX8_ahead_25 : decode cX8_ahead 25 = .ok (.aload_n 0, 1) := by decide +kernel
theorem dX8_ahead_26 : decode cX8_ahead 26 = .ok (.getfield 19, 3) := by decide +kernel
theorem dX8_ahead_29 : decode cX8_ahead 29 = .ok (.iload_n 1, 1) := by decide +kernel
theorem dX8_ahead_30 : decode cX8_ahead 30 = .ok (.aload_n 0, 1) := by decide +kernel
theorem dX8_ahead_31 : decode cX8_ahead 31 = .ok (.getfield 19, 3) := by decide +kernel
theorem dX8_ahead_34 : decode cX8_ahead 34 = .ok (.iconst 3, 1) := by decide +kernel
theorem dX8_ahead_35 : decode cX8_ahead 35 = .ok (.iaload, 1) := by decide +kernel
theorem dX8_ahead_36 : decode cX8_ahead 36 = .ok (.iload_n 2, 1) := by decide +kernel
theorem dX8_ahead_37 : decode cX8_ahead 37 = .ok (.iadd, 1) := by decide +kernel
theorem dX8_ahead_38 : decode cX8_ahead 38 = .ok (.invokestatic 175, 3) := by decide +kernel
theorem dX8_ahead_41 : decode cX8_ahead 41 = .ok (.goto 5, 3) := by decide +kernel
theorem dX8_ahead_44 : decode cX8_ahead 44 = .ok (.ldc 73, 2) := by decide +kernel
theorem dX8_ahead_46 : decode cX8_ahead 46 = .ok (.ireturn, 1) := by decide +kernel
theorem dX8_letterAhead_0 : decode cX8_letterAhead 0 = .ok (.aload_n 0, 1) := by decide +kernel
theorem dX8_letterAhead_1 : decode cX8_letterAhead 1 = .ok (.iconst 0, 1) := by decide +kernel
theorem dX8_letterAhead_2 : decode cX8_letterAhead 2 = .ok (.putfield 53, 3) := by decide +kernel
theorem dX8_letterAhead_5 : decode cX8_letterAhead 5 = .ok (.aload_n 0, 1) := by decide +kernel
theorem dX8_letterAhead_6 : decode cX8_letterAhead 6 = .ok (.iload_n 1, 1) := by decide +kernel
theorem dX8_letterAhead_7 : decode cX8_letterAhead 7 = .ok (.invokevirtual 198, 3) := by decide +kernel
theorem dX8_letterAhead_10 : decode cX8_letterAhead 10 = .ok (.ifCond .eq 15, 3) := by decide +kernel
theorem dX8_letterAhead_13 : decode cX8_letterAhead 13 = .ok (.iload_n 2, 1) := by decide +kernel
theorem dX8_letterAhead_14 : decode cX8_letterAhead 14 = .ok (.i2l, 1) := by decide +kernel
theorem dX8_letterAhead_15 : decode cX8_letterAhead 15 = .ok (.lconst 0, 1) := by decide +kernel
theorem dX8_letterAhead_16 : decode cX8_letterAhead 16 = .ok (.ldc2_w 218, 3) := by decide +kernel
theorem dX8_letterAhead_19 : decode cX8_letterAhead 19 = .ok (.invokestatic 63, 3) := by decide +kernel
theorem dX8_letterAhead_22 : decode cX8_letterAhead 22 = .ok (.ifCond .ne 6, 3) := by decide +kernel
theorem dX8_letterAhead_25 : decode cX8_letterAhead 25 = .ok (.ldc 73, 2) := by decide +kernel
theorem dX8_letterAhead_27 : decode cX8_letterAhead 27 = .ok (.ireturn, 1) := by decide +kernel
theorem dX8_letterAhead_28 : decode cX8_letterAhead 28 = .ok (.aload_n 0, 1) := by decide +kernel
theorem dX8_letterAhead_29 : decode cX8_letterAhead 29 = .ok (.getfield 19, 3) := by decide +kernel
theorem dX8_letterAhead_32 : decode cX8_letterAhead 32 = .ok (.iload_n 1, 1) := by decide +kernel
theorem dX8_letterAhead_33 : decode cX8_letterAhead 33 = .ok (.invokestatic 164, 3) := by decide +kernel
theorem dX8_letterAhead_36 : decode cX8_letterAhead 36 = .ok (.ifCond .ne 6, 3) := by decide +kernel
theorem dX8_letterAhead_39 : decode cX8_letterAhead 39 = .ok (.ldc 189, 2) := by decide +kernel
theorem dX8_letterAhead_41 : decode cX8_letterAhead 41 = .ok (.ireturn, 1) := by decide +kernel
theorem dX8_letterAhead_42 : decode cX8_letterAhead 42 = .ok (.aload_n 0, 1) := by decide +kernel
theorem dX8_letterAhead_43 : decode cX8_letterAhead 43 = .ok (.invokevirtual 220, 3) := by decide +kernel
theorem dX8_letterAhead_46 : decode cX8_letterAhead 46 = .ok (.aload_n 0, 1) := by decide +kernel
theorem dX8_letterAhead_47 : decode cX8_letterAhead 47 = .ok (.aload_n 0, 1) := by decide +kernel
theorem dX8_letterAhead_48 : decode cX8_letterAhead 48 = .ok (.getfield 25, 3) := by decide +kernel
theorem dX8_letterAhead_51 : decode cX8_letterAhead 51 = .ok (.iload_n 2, 1) := by decide +kernel
theorem dX8_letterAhead_52 : decode cX8_letterAhead 52 = .ok (.invokevirtual 223, 3) := by decide +kernel
theorem dX8_letterAhead_55 : decode cX8_letterAhead 55 = .ok (.aload_n 0, 1) := by decide +kernel
theorem dX8_letterAhead_56 : decode cX8_letterAhead 56 = .ok (.getfield 25, 3) := by decide +kernel
theorem dX8_letterAhead_59 : decode cX8_letterAhead 59 = .ok (.iload_n 1, 1) := by decide +kernel
theorem dX8_letterAhead_60 : decode cX8_letterAhead 60 = .ok (.iconst 1, 1) := by decide +kernel
theorem dX8_letterAhead_61 : decode cX8_letterAhead 61 = .ok (.invokestatic 160, 3) := by decide +kernel
theorem dX8_letterAhead_64 : decode cX8_letterAhead 64 = .ok (.ireturn, 1) := by decide +kernel
theorem dX8_arrives_0 : decode cX8_arrives 0 = .ok (.aload_n 0, 1) := by decide +kernel
theorem dX8_arrives_1 : decode cX8_arrives 1 = .ok (.iconst 0, 1) := by decide +kernel
theorem dX8_arrives_2 : decode cX8_arrives 2 = .ok (.putfield 53, 3) := by decide +kernel
theorem dX8_arrives_5 : decode cX8_arrives 5 = .ok (.aload_n 0, 1) := by decide +kernel
theorem dX8_arrives_6 : decode cX8_arrives 6 = .ok (.iload_n 1, 1) := by decide +kernel
theorem dX8_arrives_7 : decode cX8_arrives 7 = .ok (.invokevirtual 198, 3) := by decide +kernel
theorem dX8_arrives_10 : decode cX8_arrives 10 = .ok (.ifCond .ne 6, 3) := by decide +kernel
theorem dX8_arrives_13 : decode cX8_arrives 13 = .ok (.ldc 73, 2) := by decide +kernel
theorem dX8_arrives_15 : decode cX8_arrives 15 = .ok (.ireturn, 1) := by decide +kernel
theorem dX8_arrives_16 : decode cX8_arrives 16 = .ok (.aload_n 0, 1) := by decide +kernel
theorem dX8_arrives_17 : decode cX8_arrives 17 = .ok (.getfield 19, 3) := by decide +kernel
theorem dX8_arrives_20 : decode cX8_arrives 20 = .ok (.iload_n 1, 1) := by decide +kernel
theorem dX8_arrives_21 : decode cX8_arrives 21 = .ok (.invokestatic 164, 3) := by decide +kernel
theorem dX8_arrives_24 : decode cX8_arrives 24 = .ok (.ifCond .ne 6, 3) := by decide +kernel
theorem dX8_arrives_27 : decode cX8_arrives 27 = .ok (.ldc 189, 2) := by decide +kernel
theorem dX8_arrives_29 : decode cX8_arrives 29 = .ok (.ireturn, 1) := by decide +kernel
theorem dX8_arrives_30 : decode cX8_arrives 30 = .ok (.aload_n 0, 1) := by decide +kernel
theorem dX8_arrives_31 : decode cX8_arrives 31 = .ok (.invokevirtual 220, 3) := by decide +kernel
theorem dX8_arrives_34 : decode cX8_arrives 34 = .ok (.aload_n 0, 1) := by decide +kernel
theorem dX8_arrives_35 : decode cX8_arrives 35 = .ok (.iload_n 1, 1) := by decide +kernel
theorem dX8_arrives_36 : decode cX8_arrives 36 = .ok (.bipush 99, 2) := by decide +kernel
theorem dX8_arrives_38 : decode cX8_arrives 38 = .ok (.invokevirtual 227, 3) := by decide +kernel
theorem dX8_arrives_41 : decode cX8_arrives 41 = .ok (.ireturn, 1) := by decide +kernel
theorem dX8_carriers_0 : decode cX8_carriers 0 = .ok (.aload_n 0, 1) := by decide +kernel
theorem dX8_carriers_1 : decode cX8_carriers 1 = .ok (.iconst 0, 1) := by decide +kernel
theorem dX8_carriers_2 : decode cX8_carriers 2 = .ok (.putfield 53, 3) := by decide +kernel
theorem dX8_carriers_5 : decode cX8_carriers 5 = .ok (.aload_n 0, 1) := by decide +kernel
theorem dX8_carriers_6 : decode cX8_carriers 6 = .ok (.iload_n 1, 1) := by decide +kernel
theorem dX8_carriers_7 : decode cX8_carriers 7 = .ok (.invokevirtual 198, 3) := by decide +kernel
theorem dX8_carriers_10 : decode cX8_carriers 10 = .ok (.ifCond .eq 15, 3) := by decide +kernel
theorem dX8_carriers_13 : decode cX8_carriers 13 = .ok (.iload_n 2, 1) := by decide +kernel
theorem dX8_carriers_14 : decode cX8_carriers 14 = .ok (.i2l, 1) := by decide +kernel
theorem dX8_carriers_15 : decode cX8_carriers 15 = .ok (.lconst 1, 1) := by decide +kernel
theorem dX8_carriers_16 : decode cX8_carriers 16 = .ok (.ldc2_w 218, 3) := by decide +kernel
theorem dX8_carriers_19 : decode cX8_carriers 19 = .ok (.invokestatic 63, 3) := by decide +kernel
theorem dX8_carriers_22 : decode cX8_carriers 22 = .ok (.ifCond .ne 6, 3) := by decide +kernel
theorem dX8_carriers_25 : decode cX8_carriers 25 = .ok (.ldc 73, 2) := by decide +kernel
theorem dX8_carriers_27 : decode cX8_carriers 27 = .ok (.ireturn, 1) := by decide +kernel
theorem dX8_carriers_28 : decode cX8_carriers 28 = .ok (.aload_n 0, 1) := by decide +kernel
theorem dX8_carriers_29 : decode cX8_carriers 29 = .ok (.getfield 19, 3) := by decide +kernel
theorem dX8_carriers_32 : decode cX8_carriers 32 = .ok (.iload_n 1, 1) := by decide +kernel
theorem dX8_carriers_33 : decode cX8_carriers 33 = .ok (.invokestatic 164, 3) := by decide +kernel
theorem dX8_carriers_36 : decode cX8_carriers 36 = .ok (.ifCond .ne 6, 3) := by decide +kernel
theorem dX8_carriers_39 : decode cX8_carriers 39 = .ok (.ldc 189, 2) := by decide +kernel
theorem dX8_carriers_41 : decode cX8_carriers 41 = .ok (.ireturn, 1) := by decide +kernel
theorem dX8_carriers_42 : decode cX8_carriers 42 = .ok (.aload_n 0, 1) := by decide +kernel
theorem dX8_carriers_43 : decode cX8_carriers 43 = .ok (.invokevirtual 220, 3) := by decide +kernel
theorem dX8_carriers_46 : decode cX8_carriers 46 = .ok (.iconst 0, 1) := by decide +kernel
theorem dX8_carriers_47 : decode cX8_carriers 47 = .ok (.istore_n 3, 1) := by decide +kernel
theorem dX8_carriers_48 : decode cX8_carriers 48 = .ok (.iconst 0, 1) := by decide +kernel
theorem dX8_carriers_49 : decode cX8_carriers 49 = .ok (.istore 4, 2) := by decide +kernel
theorem dX8_carriers_51 : decode cX8_carriers 51 = .ok (.iload 4, 2) := by decide +kernel
theorem dX8_carriers_53 : decode cX8_carriers 53 = .ok (.iload_n 2, 1) := by decide +kernel
theorem dX8_carriers_54 : decode cX8_carriers 54 = .ok (.if_icmp .ge 45, 3) := by decide +kernel
theorem dX8_carriers_57 : decode cX8_carriers 57 = .ok (.aload_n 0, 1) := by decide +kernel
theorem dX8_carriers_58 : decode cX8_carriers 58 = .ok (.aload_n 0, 1) := by decide +kernel
theorem dX8_carriers_59 : decode cX8_carriers 59 = .ok (.getfield 25, 3) := by decide +kernel
theorem dX8_carriers_62 : decode cX8_carriers 62 = .ok (.invokevirtual 182, 3) := by decide +kernel
theorem dX8_carriers_65 : decode cX8_carriers 65 = .ok (.istore 5, 2) := by decide +kernel
theorem dX8_carriers_67 : decode cX8_carriers 67 = .ok (.iload_n 3, 1) := by decide +kernel
theorem dX8_carriers_68 : decode cX8_carriers 68 = .ok (.aload_n 0, 1) := by decide +kernel
theorem dX8_carriers_69 : decode cX8_carriers 69 = .ok (.getfield 34, 3) := by decide +kernel
theorem dX8_carriers_72 : decode cX8_carriers 72 = .ok (.iload_n 1, 1) := by decide +kernel
theorem dX8_carriers_73 : decode cX8_carriers 73 = .ok (.iaload, 1) := by decide +kernel
theorem dX8_carriers_74 : decode cX8_carriers 74 = .ok (.ldc 96, 2) := by decide +kernel
theorem dX8_carriers_76 : decode cX8_carriers 76 = .ok (.if_icmp .eq 14, 3) := by decide +kernel
theorem dX8_carriers_79 : decode cX8_carriers 79 = .ok (.iconst 1, 1) := by decide +kernel
theorem dX8_carriers_80 : decode cX8_carriers 80 = .ok (.aload_n 0, 1) := by decide +kernel
theorem dX8_carriers_81 : decode cX8_carriers 81 = .ok (.getfield 34, 3) := by decide +kernel
theorem dX8_carriers_84 : decode cX8_carriers 84 = .ok (.iload_n 1, 1) := by decide +kernel
theorem dX8_carriers_85 : decode cX8_carriers 85 = .ok (.iaload, 1) := by decide +kernel
theorem dX8_carriers_86 : decode cX8_carriers 86 = .ok (.ishl, 1) := by decide +kernel
theorem dX8_carriers_87 : decode cX8_carriers 87 = .ok (.goto 4, 3) := by decide +kernel
theorem dX8_carriers_90 : decode cX8_carriers 90 = .ok (.iconst 0, 1) := by decide +kernel
theorem dX8_carriers_91 : decode cX8_carriers 91 = .ok (.ior, 1) := by decide +kernel
theorem dX8_carriers_92 : decode cX8_carriers 92 = .ok (.istore_n 3, 1) := by decide +kernel
theorem dX8_carriers_93 : decode cX8_carriers 93 = .ok (.iinc 4 1, 3) := by decide +kernel
theorem dX8_carriers_96 : decode cX8_carriers 96 = .ok (.goto (-45), 3) := by decide +kernel
theorem dX8_carriers_99 : decode cX8_carriers 99 = .ok (.iload_n 3, 1) := by decide +kernel
theorem dX8_carriers_100 : decode cX8_carriers 100 = .ok (.ireturn, 1) := by decide +kernel
theorem dX8_bestHour_0 : decode cX8_bestHour 0 = .ok (.aload_n 0, 1) := by decide +kernel
theorem dX8_bestHour_1 : decode cX8_bestHour 1 = .ok (.iconst 0, 1) := by decide +kernel
theorem dX8_bestHour_2 : decode cX8_bestHour 2 = .ok (.putfield 53, 3) := by decide +kernel
theorem dX8_bestHour_5 : decode cX8_bestHour 5 = .ok (.aload_n 0, 1) := by decide +kernel
theorem dX8_bestHour_6 : decode cX8_bestHour 6 = .ok (.iload_n 1, 1) := by decide +kernel
theorem dX8_bestHour_7 : decode cX8_bestHour 7 = .ok (.invokevirtual 201, 3) := by decide +kernel
theorem dX8_bestHour_10 : decode cX8_bestHour 10 = .ok (.ifCond .eq 26, 3) := by decide +kernel
theorem dX8_bestHour_13 : decode cX8_bestHour 13 = .ok (.aload_n 0, 1) := by decide +kernel
theorem dX8_bestHour_14 : decode cX8_bestHour 14 = .ok (.iload_n 2, 1) := by decide +kernel
theorem dX8_bestHour_15 : decode cX8_bestHour 15 = .ok (.invokevirtual 201, 3) := by decide +kernel
theorem dX8_bestHour_18 : decode cX8_bestHour 18 = .ok (.ifCond .eq 18, 3) := by decide +kernel
theorem dX8_bestHour_21 : decode cX8_bestHour 21 = .ok (.iload_n 1, 1) := by decide +kernel
theorem dX8_bestHour_22 : decode cX8_bestHour 22 = .ok (.iload_n 2, 1) := by decide +kernel
theorem dX8_bestHour_23 : decode cX8_bestHour 23 = .ok (.if_icmp .eq 13, 3) := by decide +kernel
theorem dX8_bestHour_26 : decode cX8_bestHour 26 = .ok (.iload_n 3, 1) := by decide +kernel
theorem dX8_bestHour_27 : decode cX8_bestHour 27 = .ok (.i2l, 1) := by decide +kernel
theorem dX8_bestHour_28 : decode cX8_bestHour 28 = .ok (.lconst 0, 1) := by decide +kernel
theorem dX8_bestHour_29 : decode cX8_bestHour 29 = .ok (.lconst 1, 1) := by decide +kernel
theorem dX8_bestHour_30 : decode cX8_bestHour 30 = .ok (.invokestatic 63, 3) := by decide +kernel
theorem dX8_bestHour_33 : decode cX8_bestHour 33 = .ok (.ifCond .ne 6, 3) := by decide +kernel
theorem dX8_bestHour_36 : decode cX8_bestHour 36 = .ok (.ldc 73, 2) := by decide +kernel
theorem dX8_bestHour_38 : decode cX8_bestHour 38 = .ok (.ireturn, 1) := by decide +kernel
theorem dX8_bestHour_39 : decode cX8_bestHour 39 = .ok (.ldc 96, 2) := by decide +kernel
theorem dX8_bestHour_41 : decode cX8_bestHour 41 = .ok (.istore 4, 2) := by decide +kernel
theorem dX8_bestHour_43 : decode cX8_bestHour 43 = .ok (.ldc 96, 2) := by decide +kernel
theorem dX8_bestHour_45 : decode cX8_bestHour 45 = .ok (.istore 5, 2) := by decide +kernel
theorem dX8_bestHour_47 : decode cX8_bestHour 47 = .ok (.iconst 0, 1) := by decide +kernel
theorem dX8_bestHour_48 : decode cX8_bestHour 48 = .ok (.istore 6, 2) := by decide +kernel
theorem dX8_bestHour_50 : decode cX8_bestHour 50 = .ok (.iload 6, 2) := by decide +kernel
theorem dX8_bestHour_52 : decode cX8_bestHour 52 = .ok (.aload_n 0, 1) := by decide +kernel
theorem dX8_bestHour_53 : decode cX8_bestHour 53 = .ok (.getfield 19, 3) := by decide +kernel
theorem dX8_bestHour_56 : decode cX8_bestHour 56 = .ok (.iconst 1, 1) := by decide +kernel
theorem dX8_bestHour_57 : decode cX8_bestHour 57 = .ok (.iaload, 1) := by decide +kernel
theorem dX8_bestHour_58 : decode cX8_bestHour 58 = .ok (.if_icmp .ge 107, 3) := by decide +kernel
theorem dX8_bestHour_61 : decode cX8_bestHour 61 = .ok (.aload_n 0, 1) := by decide +kernel
theorem dX8_bestHour_62 : decode cX8_bestHour 62 = .ok (.invokevirtual 220, 3) := by decide +kernel
theorem dX8_bestHour_65 : decode cX8_bestHour 65 = .ok (.aload_n 0, 1) := by decide +kernel
theorem dX8_bestHour_66 : decode cX8_bestHour 66 = .ok (.aload_n 0, 1) := by decide +kernel
theorem dX8_bestHour_67 : decode cX8_bestHour 67 = .ok (.getfield 25, 3) := by decide +kernel
theorem dX8_bestHour_70 : decode cX8_bestHour 70 = .ok (.iload 6, 2) := by decide +kernel
theorem dX8_bestHour_72 : decode cX8_bestHour 72 = .ok (.invokevirtual 223, 3) := by decide +kernel
theorem dX8_bestHour_75 : decode cX8_bestHour 75 = .ok (.aload_n 0, 1) := by decide +kernel
theorem dX8_bestHour_76 : decode cX8_bestHour 76 = .ok (.getfield 25, 3) := by decide +kernel
theorem dX8_bestHour_79 : decode cX8_bestHour 79 = .ok (.iconst 3, 1) := by decide +kernel
theorem dX8_bestHour_80 : decode cX8_bestHour 80 = .ok (.iload_n 1, 1) := by decide +kernel
theorem dX8_bestHour_81 : decode cX8_bestHour 81 = .ok (.iload_n 2, 1) := by decide +kernel
theorem dX8_bestHour_82 : decode cX8_bestHour 82 = .ok (.invokestatic 204, 3) := by decide +kernel
theorem dX8_bestHour_85 : decode cX8_bestHour 85 = .ok (.aload_n 0, 1) := by decide +kernel
theorem dX8_bestHour_86 : decode cX8_bestHour 86 = .ok (.iconst 3, 1) := by decide +kernel
theorem dX8_bestHour_87 : decode cX8_bestHour 87 = .ok (.bipush 99, 2) := by decide +kernel
theorem dX8_bestHour_89 : decode cX8_bestHour 89 = .ok (.iload 6, 2) := by decide +kernel
theorem dX8_bestHour_91 : decode cX8_bestHour 91 = .ok (.isub, 1) := by decide +kernel
theorem dX8_bestHour_92 : decode cX8_bestHour 92 = .ok (.invokevirtual 227, 3) := by decide +kernel
theorem dX8_bestHour_95 : decode cX8_bestHour 95 = .ok (.istore 7, 2) := by decide +kernel
theorem dX8_bestHour_97 : decode cX8_bestHour 97 = .ok (.iload 7, 2) := by decide +kernel
theorem dX8_bestHour_99 : decode cX8_bestHour 99 = .ok (.ldc 96, 2) := by decide +kernel
theorem dX8_bestHour_101 : decode cX8_bestHour 101 = .ok (.if_icmp .eq 24, 3) := by decide +kernel
theorem dX8_bestHour_104 : decode cX8_bestHour 104 = .ok (.iload 4, 2) := by decide +kernel
theorem dX8_bestHour_106 : decode cX8_bestHour 106 = .ok (.ldc 96, 2) := by decide +kernel
theorem dX8_bestHour_108 : decode cX8_bestHour 108 = .ok (.if_icmp .eq 13, 3) := by decide +kernel
theorem dX8_bestHour_111 : decode cX8_bestHour 111 = .ok (.iload 6, 2) := by decide +kernel
theorem dX8_bestHour_113 : decode cX8_bestHour 113 = .ok (.iload 7, 2) := by decide +kernel
theorem dX8_bestHour_115 : decode cX8_bestHour 115 = .ok (.iadd, 1) := by decide +kernel
theorem dX8_bestHour_116 : decode cX8_bestHour 116 = .ok (.iload 5, 2) := by decide +kernel
theorem dX8_bestHour_118 : decode cX8_bestHour 118 = .ok (.if_icmp .gt 7, 3) := by decide +kernel
theorem dX8_bestHour_121 : decode cX8_bestHour 121 = .ok (.iconst 1, 1) := by decide +kernel
theorem dX8_bestHour_122 : decode cX8_bestHour 122 = .ok (.goto 4, 3) := by decide +kernel
theorem dX8_bestHour_125 : decode cX8_bestHour 125 = .ok (.iconst 0, 1) := by decide +kernel
theorem dX8_bestHour_126 : decode cX8_bestHour 126 = .ok (.istore 8, 2) := by decide +kernel
theorem dX8_bestHour_128 : decode cX8_bestHour 128 = .ok (.iload 8, 2) := by decide +kernel
theorem dX8_bestHour_130 : decode cX8_bestHour 130 = .ok (.ifCond .eq 8, 3) := by decide +kernel
theorem dX8_bestHour_133 : decode cX8_bestHour 133 = .ok (.iload 6, 2) := by decide +kernel
theorem dX8_bestHour_135 : decode cX8_bestHour 135 = .ok (.goto 5, 3) := by decide +kernel
theorem dX8_bestHour_138 : decode cX8_bestHour 138 = .ok (.iload 4, 2) := by decide +kernel
theorem dX8_bestHour_140 : decode cX8_bestHour 140 = .ok (.istore 4, 2) := by decide +kernel
theorem dX8_bestHour_142 : decode cX8_bestHour 142 = .ok (.iload 8, 2) := by decide +kernel
theorem dX8_bestHour_144 : decode cX8_bestHour 144 = .ok (.ifCond .eq 11, 3) := by decide +kernel
theorem dX8_bestHour_147 : decode cX8_bestHour 147 = .ok (.iload 6, 2) := by decide +kernel
theorem dX8_bestHour_149 : decode cX8_bestHour 149 = .ok (.iload 7, 2) := by decide +kernel
theorem dX8_bestHour_151 : decode cX8_bestHour 151 = .ok (.iadd, 1) := by decide +kernel
theorem dX8_bestHour_152 : decode cX8_bestHour 152 = .ok (.goto 5, 3) := by decide +kernel
theorem dX8_bestHour_155 : decode cX8_bestHour 155 = .ok (.iload 5, 2) := by decide +kernel
theorem dX8_bestHour_157 : decode cX8_bestHour 157 = .ok (.istore 5, 2) := by decide +kernel
theorem dX8_bestHour_159 : decode cX8_bestHour 159 = .ok (.iinc 6 1, 3) := by decide +kernel
theorem dX8_bestHour_162 : decode cX8_bestHour 162 = .ok (.goto (-112), 3) := by decide +kernel
theorem dX8_bestHour_165 : decode cX8_bestHour 165 = .ok (.iload_n 3, 1) := by decide +kernel
theorem dX8_bestHour_166 : decode cX8_bestHour 166 = .ok (.ifCond .ne 8, 3) := by decide +kernel
theorem dX8_bestHour_169 : decode cX8_bestHour 169 = .ok (.iload 4, 2) := by decide +kernel
theorem dX8_bestHour_171 : decode cX8_bestHour 171 = .ok (.goto 5, 3) := by decide +kernel
theorem dX8_bestHour_174 : decode cX8_bestHour 174 = .ok (.iload 5, 2) := by decide +kernel
theorem dX8_bestHour_176 : decode cX8_bestHour 176 = .ok (.ireturn, 1) := by decide +kernel
theorem dX8_spotsBy_0 : decode cX8_spotsBy 0 = .ok (.iconst 0, 1) := by decide +kernel
theorem dX8_spotsBy_1 : decode cX8_spotsBy 1 = .ok (.istore_n 3, 1) := by decide +kernel
theorem dX8_spotsBy_2 : decode cX8_spotsBy 2 = .ok (.iconst 0, 1) := by decide +kernel
theorem dX8_spotsBy_3 : decode cX8_spotsBy 3 = .ok (.istore 4, 2) := by decide +kernel
theorem dX8_spotsBy_5 : decode cX8_spotsBy 5 = .ok (.iload 4, 2) := by decide +kernel
theorem dX8_spotsBy_7 : decode cX8_spotsBy 7 = .ok (.aload_n 0, 1) := by decide +kernel
theorem dX8_spotsBy_8 : decode cX8_spotsBy 8 = .ok (.getfield 19, 3) := by decide +kernel
theorem dX8_spotsBy_11 : decode cX8_spotsBy 11 = .ok (.iconst 0, 1) := by decide +kernel
theorem dX8_spotsBy_12 : decode cX8_spotsBy 12 = .ok (.iaload, 1) := by decide +kernel
theorem dX8_spotsBy_13 : decode cX8_spotsBy 13 = .ok (.if_icmp .ge 46, 3) := by decide +kernel
theorem dX8_spotsBy_16 : decode cX8_spotsBy 16 = .ok (.aload_n 0, 1) := by decide +kernel
theorem dX8_spotsBy_17 : decode cX8_spotsBy 17 = .ok (.invokevirtual 220, 3) := by decide +kernel
theorem dX8_spotsBy_20 : decode cX8_spotsBy 20 = .ok (.aload_n 0, 1) := by decide +kernel
theorem dX8_spotsBy_21 : decode cX8_spotsBy 21 = .ok (.getfield 25, 3) := by decide +kernel
theorem dX8_spotsBy_24 : decode cX8_spotsBy 24 = .ok (.iconst 3, 1) := by decide +kernel
theorem dX8_spotsBy_25 : decode cX8_spotsBy 25 = .ok (.iload 4, 2) := by decide +kernel
theorem dX8_spotsBy_27 : decode cX8_spotsBy 27 = .ok (.iload_n 1, 1) := by decide +kernel
theorem dX8_spotsBy_28 : decode cX8_spotsBy 28 = .ok (.invokestatic 204, 3) := by decide +kernel
theorem dX8_spotsBy_31 : decode cX8_spotsBy 31 = .ok (.iload_n 3, 1) := by decide +kernel
theorem dX8_spotsBy_32 : decode cX8_spotsBy 32 = .ok (.aload_n 0, 1) := by decide +kernel
theorem dX8_spotsBy_33 : decode cX8_spotsBy 33 = .ok (.iconst 3, 1) := by decide +kernel
theorem dX8_spotsBy_34 : decode cX8_spotsBy 34 = .ok (.iload_n 2, 1) := by decide +kernel
theorem dX8_spotsBy_35 : decode cX8_spotsBy 35 = .ok (.invokevirtual 227, 3) := by decide +kernel
theorem dX8_spotsBy_38 : decode cX8_spotsBy 38 = .ok (.ldc 96, 2) := by decide +kernel
theorem dX8_spotsBy_40 : decode cX8_spotsBy 40 = .ok (.if_icmp .eq 10, 3) := by decide +kernel
theorem dX8_spotsBy_43 : decode cX8_spotsBy 43 = .ok (.iconst 1, 1) := by decide +kernel
theorem dX8_spotsBy_44 : decode cX8_spotsBy 44 = .ok (.iload 4, 2) := by decide +kernel
theorem dX8_spotsBy_46 : decode cX8_spotsBy 46 = .ok (.ishl, 1) := by decide +kernel
theorem dX8_spotsBy_47 : decode cX8_spotsBy 47 = .ok (.goto 4, 3) := by decide +kernel
theorem dX8_spotsBy_50 : decode cX8_spotsBy 50 = .ok (.iconst 0, 1) := by decide +kernel
theorem dX8_spotsBy_51 : decode cX8_spotsBy 51 = .ok (.ior, 1) := by decide +kernel
theorem dX8_spotsBy_52 : decode cX8_spotsBy 52 = .ok (.istore_n 3, 1) := by decide +kernel
theorem dX8_spotsBy_53 : decode cX8_spotsBy 53 = .ok (.iinc 4 1, 3) := by decide +kernel
theorem dX8_spotsBy_56 : decode cX8_spotsBy 56 = .ok (.goto (-51), 3) := by decide +kernel
theorem dX8_spotsBy_59 : decode cX8_spotsBy 59 = .ok (.iload_n 3, 1) := by decide +kernel
theorem dX8_spotsBy_60 : decode cX8_spotsBy 60 = .ok (.ireturn, 1) := by decide +kernel
theorem dX8_spots_0 : decode cX8_spots 0 = .ok (.aload_n 0, 1) := by decide +kernel
theorem dX8_spots_1 : decode cX8_spots 1 = .ok (.iconst 0, 1) := by decide +kernel
theorem dX8_spots_2 : decode cX8_spots 2 = .ok (.putfield 53, 3) := by decide +kernel
theorem dX8_spots_5 : decode cX8_spots 5 = .ok (.aload_n 0, 1) := by decide +kernel
theorem dX8_spots_6 : decode cX8_spots 6 = .ok (.iload_n 1, 1) := by decide +kernel
theorem dX8_spots_7 : decode cX8_spots 7 = .ok (.invokevirtual 201, 3) := by decide +kernel
theorem dX8_spots_10 : decode cX8_spots 10 = .ok (.ifCond .eq 24, 3) := by decide +kernel
theorem dX8_spots_13 : decode cX8_spots 13 = .ok (.iload_n 2, 1) := by decide +kernel
theorem dX8_spots_14 : decode cX8_spots 14 = .ok (.i2l, 1) := by decide +kernel
theorem dX8_spots_15 : decode cX8_spots 15 = .ok (.lconst 1, 1) := by decide +kernel
theorem dX8_spots_16 : decode cX8_spots 16 = .ok (.ldc2_w 218, 3) := by decide +kernel
theorem dX8_spots_19 : decode cX8_spots 19 = .ok (.invokestatic 63, 3) := by decide +kernel
theorem dX8_spots_22 : decode cX8_spots 22 = .ok (.ifCond .eq 12, 3) := by decide +kernel
theorem dX8_spots_25 : decode cX8_spots 25 = .ok (.aload_n 0, 1) := by decide +kernel
theorem dX8_spots_26 : decode cX8_spots 26 = .ok (.iload_n 1, 1) := by decide +kernel
theorem dX8_spots_27 : decode cX8_spots 27 = .ok (.iload_n 2, 1) := by decide +kernel
theorem dX8_spots_28 : decode cX8_spots 28 = .ok (.invokevirtual 230, 3) := by decide +kernel
theorem dX8_spots_31 : decode cX8_spots 31 = .ok (.goto 5, 3) := by decide +kernel
theorem dX8_spots_34 : decode cX8_spots 34 = .ok (.ldc 73, 2) := by decide +kernel
theorem dX8_spots_36 : decode cX8_spots 36 = .ok (.ireturn, 1) := by decide +kernel
theorem dX8_cutOff_0 : decode cX8_cutOff 0 = .ok (.aload_n 0, 1) := by decide +kernel
theorem dX8_cutOff_1 : decode cX8_cutOff 1 = .ok (.iconst 0, 1) := by decide +kernel
theorem dX8_cutOff_2 : decode cX8_cutOff 2 = .ok (.putfield 53, 3) := by decide +kernel
theorem dX8_cutOff_5 : decode cX8_cutOff 5 = .ok (.aload_n 0, 1) := by decide +kernel
theorem dX8_cutOff_6 : decode cX8_cutOff 6 = .ok (.invokevirtual 155, 3) := by decide +kernel
theorem dX8_cutOff_9 : decode cX8_cutOff 9 = .ok (.ifCond .ne 6, 3) := by decide +kernel
theorem dX8_cutOff_12 : decode cX8_cutOff 12 = .ok (.ldc 189, 2) := by decide +kernel
theorem dX8_cutOff_14 : decode cX8_cutOff 14 = .ok (.ireturn, 1) := by decide +kernel
theorem dX8_cutOff_15 : decode cX8_cutOff 15 = .ok (.iconst 0, 1) := by decide +kernel
theorem dX8_cutOff_16 : decode cX8_cutOff 16 = .ok (.istore_n 1, 1) := by decide +kernel
theorem dX8_cutOff_17 : decode cX8_cutOff 17 = .ok (.iconst 0, 1) := by decide +kernel
theorem dX8_cutOff_18 : decode cX8_cutOff 18 = .ok (.istore_n 2, 1) := by decide +kernel
theorem dX8_cutOff_19 : decode cX8_cutOff 19 = .ok (.iload_n 2, 1) := by decide +kernel
theorem dX8_cutOff_20 : decode cX8_cutOff 20 = .ok (.aload_n 0, 1) := by decide +kernel
theorem dX8_cutOff_21 : decode cX8_cutOff 21 = .ok (.getfield 19, 3) := by decide +kernel
theorem dX8_cutOff_24 : decode cX8_cutOff 24 = .ok (.iconst 0, 1) := by decide +kernel
theorem dX8_cutOff_25 : decode cX8_cutOff 25 = .ok (.iaload, 1) := by decide +kernel
theorem dX8_cutOff_26 : decode cX8_cutOff 26 = .ok (.if_icmp .ge 35, 3) := by decide +kernel
theorem dX8_cutOff_29 : decode cX8_cutOff 29 = .ok (.iload_n 1, 1) := by decide +kernel
theorem dX8_cutOff_30 : decode cX8_cutOff 30 = .ok (.aload_n 0, 1) := by decide +kernel
theorem dX8_cutOff_31 : decode cX8_cutOff 31 = .ok (.iload_n 2, 1) := by decide +kernel
theorem dX8_cutOff_32 : decode cX8_cutOff 32 = .ok (.bipush 99, 2) := by decide +kernel
theorem dX8_cutOff_34 : decode cX8_cutOff 34 = .ok (.invokevirtual 230, 3) := by decide +kernel
theorem dX8_cutOff_37 : decode cX8_cutOff 37 = .ok (.iconst 1, 1) := by decide +kernel
theorem dX8_cutOff_38 : decode cX8_cutOff 38 = .ok (.iload_n 2, 1) := by decide +kernel
theorem dX8_cutOff_39 : decode cX8_cutOff 39 = .ok (.ishl, 1) := by decide +kernel
theorem dX8_cutOff_40 : decode cX8_cutOff 40 = .ok (.iconst (-1), 1) := by decide +kernel
theorem dX8_cutOff_41 : decode cX8_cutOff 41 = .ok (.ixor, 1) := by decide +kernel
theorem dX8_cutOff_42 : decode cX8_cutOff 42 = .ok (.iand, 1) := by decide +kernel
theorem dX8_cutOff_43 : decode cX8_cutOff 43 = .ok (.ifCond .ne 9, 3) := by decide +kernel
theorem dX8_cutOff_46 : decode cX8_cutOff 46 = .ok (.iconst 1, 1) := by decide +kernel
theorem dX8_cutOff_47 : decode cX8_cutOff 47 = .ok (.iload_n 2, 1) := by decide +kernel
theorem dX8_cutOff_48 : decode cX8_cutOff 48 = .ok (.ishl, 1) := by decide +kernel
theorem dX8_cutOff_49 : decode cX8_cutOff 49 = .ok (.goto 4, 3) := by decide +kernel
theorem dX8_cutOff_52 : decode cX8_cutOff 52 = .ok (.iconst 0, 1) := by decide +kernel
theorem dX8_cutOff_53 : decode cX8_cutOff 53 = .ok (.ior, 1) := by decide +kernel
theorem dX8_cutOff_54 : decode cX8_cutOff 54 = .ok (.istore_n 1, 1) := by decide +kernel
theorem dX8_cutOff_55 : decode cX8_cutOff 55 = .ok (.iinc 2 1, 3) := by decide +kernel
theorem dX8_cutOff_58 : decode cX8_cutOff 58 = .ok (.goto (-39), 3) := by decide +kernel
theorem dX8_cutOff_61 : decode cX8_cutOff 61 = .ok (.iload_n 1, 1) := by decide +kernel
theorem dX8_cutOff_62 : decode cX8_cutOff 62 = .ok (.ireturn, 1) := by decide +kernel
theorem dX8_up_0 : decode cX8_up 0 = .ok (.iconst 1, 1) := by decide +kernel
theorem dX8_up_1 : decode cX8_up 1 = .ok (.aload_n 0, 1) := by decide +kernel
theorem dX8_up_2 : decode cX8_up 2 = .ok (.getfield 19, 3) := by decide +kernel
theorem dX8_up_5 : decode cX8_up 5 = .ok (.iconst 2, 1) := by decide +kernel
theorem dX8_up_6 : decode cX8_up 6 = .ok (.iaload, 1) := by decide +kernel
theorem dX8_up_7 : decode cX8_up 7 = .ok (.ishl, 1) := by decide +kernel
theorem dX8_up_8 : decode cX8_up 8 = .ok (.iconst 1, 1) := by decide +kernel
theorem dX8_up_9 : decode cX8_up 9 = .ok (.isub, 1) := by decide +kernel
theorem dX8_up_10 : decode cX8_up 10 = .ok (.aload_n 0, 1) := by decide +kernel
theorem dX8_up_11 : decode cX8_up 11 = .ok (.getfield 19, 3) := by decide +kernel
theorem dX8_up_14 : decode cX8_up 14 = .ok (.iconst 4, 1) := by decide +kernel
theorem dX8_up_15 : decode cX8_up 15 = .ok (.iaload, 1) := by decide +kernel
theorem dX8_up_16 : decode cX8_up 16 = .ok (.iconst (-1), 1) := by decide +kernel
theorem dX8_up_17 : decode cX8_up 17 = .ok (.ixor, 1) := by decide +kernel
theorem dX8_up_18 : decode cX8_up 18 = .ok (.iand, 1) := by decide +kernel
theorem dX8_up_19 : decode cX8_up 19 = .ok (.ireturn, 1) := by decide +kernel
theorem dX8_crew_0 : decode cX8_crew 0 = .ok (.aload_n 0, 1) := by decide +kernel
theorem dX8_crew_1 : decode cX8_crew 1 = .ok (.iconst 0, 1) := by decide +kernel
theorem dX8_crew_2 : decode cX8_crew 2 = .ok (.putfield 53, 3) := by decide +kernel
theorem dX8_crew_5 : decode cX8_crew 5 = .ok (.aload_n 0, 1) := by decide +kernel
theorem dX8_crew_6 : decode cX8_crew 6 = .ok (.iload_n 1, 1) := by decide +kernel
theorem dX8_crew_7 : decode cX8_crew 7 = .ok (.invokevirtual 198, 3) := by decide +kernel
theorem dX8_crew_10 : decode cX8_crew 10 = .ok (.ifCond .eq 25, 3) := by decide +kernel
theorem dX8_crew_13 : decode cX8_crew 13 = .ok (.iload_n 2, 1) := by decide +kernel
theorem dX8_crew_14 : decode cX8_crew 14 = .ok (.i2l, 1) := by decide +kernel
theorem dX8_crew_15 : decode cX8_crew 15 = .ok (.lconst 1, 1) := by decide +kernel
theorem dX8_crew_16 : decode cX8_crew 16 = .ok (.ldc2_w 218, 3) := by decide +kernel
theorem dX8_crew_19 : decode cX8_crew 19 = .ok (.invokestatic 63, 3) := by decide +kernel
theorem dX8_crew_22 : decode cX8_crew 22 = .ok (.ifCond .eq 13, 3) := by decide +kernel
theorem dX8_crew_25 : decode cX8_crew 25 = .ok (.iload_n 3, 1) := by decide +kernel
theorem dX8_crew_26 : decode cX8_crew 26 = .ok (.i2l, 1) := by decide +kernel
theorem dX8_crew_27 : decode cX8_crew 27 = .ok (.lconst 0, 1) := by decide +kernel
theorem dX8_crew_28 : decode cX8_crew 28 = .ok (.lconst 1, 1) := by decide +kernel
theorem dX8_crew_29 : decode cX8_crew 29 = .ok (.invokestatic 63, 3) := by decide +kernel
theorem dX8_crew_32 : decode cX8_crew 32 = .ok (.ifCond .ne 6, 3) := by decide +kernel
theorem dX8_crew_35 : decode cX8_crew 35 = .ok (.ldc 73, 2) := by decide +kernel
theorem dX8_crew_37 : decode cX8_crew 37 = .ok (.ireturn, 1) := by decide +kernel
theorem dX8_crew_38 : decode cX8_crew 38 = .ok (.aload_n 0, 1) := by decide +kernel
theorem dX8_crew_39 : decode cX8_crew 39 = .ok (.getfield 19, 3) := by decide +kernel
theorem dX8_crew_42 : decode cX8_crew 42 = .ok (.iload_n 1, 1) := by decide +kernel
theorem dX8_crew_43 : decode cX8_crew 43 = .ok (.invokestatic 164, 3) := by decide +kernel
theorem dX8_crew_46 : decode cX8_crew 46 = .ok (.ifCond .ne 6, 3) := by decide +kernel
theorem dX8_crew_49 : decode cX8_crew 49 = .ok (.ldc 189, 2) := by decide +kernel
theorem dX8_crew_51 : decode cX8_crew 51 = .ok (.ireturn, 1) := by decide +kernel
theorem dX8_crew_52 : decode cX8_crew 52 = .ok (.iconst 1, 1) := by decide +kernel
theorem dX8_crew_53 : decode cX8_crew 53 = .ok (.aload_n 0, 1) := by decide +kernel
theorem dX8_crew_54 : decode cX8_crew 54 = .ok (.getfield 19, 3) := by decide +kernel
theorem dX8_crew_57 : decode cX8_crew 57 = .ok (.iconst 2, 1) := by decide +kernel
theorem dX8_crew_58 : decode cX8_crew 58 = .ok (.iaload, 1) := by decide +kernel
theorem dX8_crew_59 : decode cX8_crew 59 = .ok (.ishl, 1) := by decide +kernel
theorem dX8_crew_60 : decode cX8_crew 60 = .ok (.iconst 1, 1) := by decide +kernel
theorem dX8_crew_61 : decode cX8_crew 61 = .ok (.isub, 1) := by decide +kernel
theorem dX8_crew_62 : decode cX8_crew 62 = .ok (.istore 4, 2) := by decide +kernel
theorem dX8_crew_64 : decode cX8_crew 64 = .ok (.ldc 96, 2) := by decide +kernel
theorem dX8_crew_66 : decode cX8_crew 66 = .ok (.istore 5, 2) := by decide +kernel
theorem dX8_crew_68 : decode cX8_crew 68 = .ok (.iconst 0, 1) := by decide +kernel
theorem dX8_crew_69 : decode cX8_crew 69 = .ok (.istore 6, 2) := by decide +kernel
theorem dX8_crew_71 : decode cX8_crew 71 = .ok (.iload 6, 2) := by decide +kernel
theorem dX8_crew_73 : decode cX8_crew 73 = .ok (.aload_n 0, 1) := by decide +kernel
theorem dX8_crew_74 : decode cX8_crew 74 = .ok (.invokevirtual 233, 3) := by decide +kernel
theorem dX8_crew_77 : decode cX8_crew 77 = .ok (.if_icmp .gt 78, 3) := by decide +kernel
theorem dX8_crew_80 : decode cX8_crew 80 = .ok (.iload 6, 2) := by decide +kernel
theorem dX8_crew_82 : decode cX8_crew 82 = .ok (.aload_n 0, 1) := by decide +kernel
theorem dX8_crew_83 : decode cX8_crew 83 = .ok (.invokevirtual 233, 3) := by decide +kernel
theorem dX8_crew_86 : decode cX8_crew 86 = .ok (.iconst (-1), 1) := by decide +kernel
theorem dX8_crew_87 : decode cX8_crew 87 = .ok (.ixor, 1) := by decide +kernel
theorem dX8_crew_88 : decode cX8_crew 88 = .ok (.iand, 1) := by decide +kernel
theorem dX8_crew_89 : decode cX8_crew 89 = .ok (.ifCond .ne 60, 3) := by decide +kernel
theorem dX8_crew_92 : decode cX8_crew 92 = .ok (.iload 5, 2) := by decide +kernel
theorem dX8_crew_94 : decode cX8_crew 94 = .ok (.ldc 96, 2) := by decide +kernel
theorem dX8_crew_96 : decode cX8_crew 96 = .ok (.if_icmp .eq 16, 3) := by decide +kernel
theorem dX8_crew_99 : decode cX8_crew 99 = .ok (.iload 6, 2) := by decide +kernel
theorem dX8_crew_101 : decode cX8_crew 101 = .ok (.invokestatic 237, 3) := by decide +kernel
theorem dX8_crew_104 : decode cX8_crew 104 = .ok (.iload 5, 2) := by decide +kernel
theorem dX8_crew_106 : decode cX8_crew 106 = .ok (.invokestatic 237, 3) := by decide +kernel
theorem dX8_crew_109 : decode cX8_crew 109 = .ok (.if_icmp .ge 40, 3) := by decide +kernel
theorem dX8_crew_112 : decode cX8_crew 112 = .ok (.aload_n 0, 1) := by decide +kernel
theorem dX8_crew_113 : decode cX8_crew 113 = .ok (.invokevirtual 220, 3) := by decide +kernel
theorem dX8_crew_116 : decode cX8_crew 116 = .ok (.aload_n 0, 1) := by decide +kernel
theorem dX8_crew_117 : decode cX8_crew 117 = .ok (.getfield 25, 3) := by decide +kernel
theorem dX8_crew_120 : decode cX8_crew 120 = .ok (.iconst 4, 1) := by decide +kernel
theorem dX8_crew_121 : decode cX8_crew 121 = .ok (.iload 4, 2) := by decide +kernel
theorem dX8_crew_123 : decode cX8_crew 123 = .ok (.iload 6, 2) := by decide +kernel
theorem dX8_crew_125 : decode cX8_crew 125 = .ok (.iconst (-1), 1) := by decide +kernel
theorem dX8_crew_126 : decode cX8_crew 126 = .ok (.ixor, 1) := by decide +kernel
theorem dX8_crew_127 : decode cX8_crew 127 = .ok (.iand, 1) := by decide +kernel
theorem dX8_crew_128 : decode cX8_crew 128 = .ok (.iastore, 1) := by decide +kernel
theorem dX8_crew_129 : decode cX8_crew 129 = .ok (.aload_n 0, 1) := by decide +kernel
theorem dX8_crew_130 : decode cX8_crew 130 = .ok (.iload_n 1, 1) := by decide +kernel
theorem dX8_crew_131 : decode cX8_crew 131 = .ok (.iload_n 2, 1) := by decide +kernel
theorem dX8_crew_132 : decode cX8_crew 132 = .ok (.invokevirtual 227, 3) := by decide +kernel
theorem dX8_crew_135 : decode cX8_crew 135 = .ok (.ldc 96, 2) := by decide +kernel
theorem dX8_crew_137 : decode cX8_crew 137 = .ok (.if_icmp .eq 8, 3) := by decide +kernel
theorem dX8_crew_140 : decode cX8_crew 140 = .ok (.iload 6, 2) := by decide +kernel
theorem dX8_crew_142 : decode cX8_crew 142 = .ok (.goto 5, 3) := by decide +kernel
theorem dX8_crew_145 : decode cX8_crew 145 = .ok (.iload 5, 2) := by decide +kernel
theorem dX8_crew_147 : decode cX8_crew 147 = .ok (.istore 5, 2) := by decide +kernel
theorem dX8_crew_149 : decode cX8_crew 149 = .ok (.iinc 6 1, 3) := by decide +kernel
theorem dX8_crew_152 : decode cX8_crew 152 = .ok (.goto (-81), 3) := by decide +kernel
theorem dX8_crew_155 : decode cX8_crew 155 = .ok (.iload 5, 2) := by decide +kernel
theorem dX8_crew_157 : decode cX8_crew 157 = .ok (.ldc 96, 2) := by decide +kernel
theorem dX8_crew_159 : decode cX8_crew 159 = .ok (.if_icmp .eq 8, 3) := by decide +kernel
theorem dX8_crew_162 : decode cX8_crew 162 = .ok (.iload_n 3, 1) := by decide +kernel
theorem dX8_crew_163 : decode cX8_crew 163 = .ok (.iconst 1, 1) := by decide +kernel
theorem dX8_crew_164 : decode cX8_crew 164 = .ok (.if_icmp .ne 8, 3) := by decide +kernel
theorem dX8_crew_167 : decode cX8_crew 167 = .ok (.iload 5, 2) := by decide +kernel
theorem dX8_crew_169 : decode cX8_crew 169 = .ok (.goto 8, 3) := by decide +kernel
theorem dX8_crew_172 : decode cX8_crew 172 = .ok (.iload 5, 2) := by decide +kernel
theorem dX8_crew_174 : decode cX8_crew 174 = .ok (.invokestatic 237, 3) := by decide +kernel
theorem dX8_crew_177 : decode cX8_crew 177 = .ok (.ireturn, 1) := by decide +kernel
theorem dX8_needed_0 : decode cX8_needed 0 = .ok (.aload_n 0, 1) := by decide +kernel
theorem dX8_needed_1 : decode cX8_needed 1 = .ok (.iconst 0, 1) := by decide +kernel
theorem dX8_needed_2 : decode cX8_needed 2 = .ok (.putfield 53, 3) := by decide +kernel
theorem dX8_needed_5 : decode cX8_needed 5 = .ok (.aload_n 0, 1) := by decide +kernel
theorem dX8_needed_6 : decode cX8_needed 6 = .ok (.iload_n 1, 1) := by decide +kernel
theorem dX8_needed_7 : decode cX8_needed 7 = .ok (.invokevirtual 198, 3) := by decide +kernel
theorem dX8_needed_10 : decode cX8_needed 10 = .ok (.ifCond .eq 15, 3) := by decide +kernel
theorem dX8_needed_13 : decode cX8_needed 13 = .ok (.iload_n 2, 1) := by decide +kernel
theorem dX8_needed_14 : decode cX8_needed 14 = .ok (.i2l, 1) := by decide +kernel
theorem dX8_needed_15 : decode cX8_needed 15 = .ok (.lconst 1, 1) := by decide +kernel
theorem dX8_needed_16 : decode cX8_needed 16 = .ok (.ldc2_w 218, 3) := by decide +kernel
theorem dX8_needed_19 : decode cX8_needed 19 = .ok (.invokestatic 63, 3) := by decide +kernel
theorem dX8_needed_22 : decode cX8_needed 22 = .ok (.ifCond .ne 6, 3) := by decide +kernel
theorem dX8_needed_25 : decode cX8_needed 25 = .ok (.ldc 73, 2) := by decide +kernel
theorem dX8_needed_27 : decode cX8_needed 27 = .ok (.ireturn, 1) := by decide +kernel
theorem dX8_needed_28 : decode cX8_needed 28 = .ok (.aload_n 0, 1) := by decide +kernel
theorem dX8_needed_29 : decode cX8_needed 29 = .ok (.getfield 19, 3) := by decide +kernel
theorem dX8_needed_32 : decode cX8_needed 32 = .ok (.iload_n 1, 1) := by decide +kernel
theorem dX8_needed_33 : decode cX8_needed 33 = .ok (.invokestatic 164, 3) := by decide +kernel
theorem dX8_needed_36 : decode cX8_needed 36 = .ok (.ifCond .ne 6, 3) := by decide +kernel
theorem dX8_needed_39 : decode cX8_needed 39 = .ok (.ldc 189, 2) := by decide +kernel
theorem dX8_needed_41 : decode cX8_needed 41 = .ok (.ireturn, 1) := by decide +kernel
theorem dX8_needed_42 : decode cX8_needed 42 = .ok (.aload_n 0, 1) := by decide +kernel
theorem dX8_needed_43 : decode cX8_needed 43 = .ok (.invokevirtual 220, 3) := by decide +kernel
theorem dX8_needed_46 : decode cX8_needed 46 = .ok (.aload_n 0, 1) := by decide +kernel
theorem dX8_needed_47 : decode cX8_needed 47 = .ok (.iload_n 1, 1) := by decide +kernel
theorem dX8_needed_48 : decode cX8_needed 48 = .ok (.iload_n 2, 1) := by decide +kernel
theorem dX8_needed_49 : decode cX8_needed 49 = .ok (.invokevirtual 227, 3) := by decide +kernel
theorem dX8_needed_52 : decode cX8_needed 52 = .ok (.ldc 96, 2) := by decide +kernel
theorem dX8_needed_54 : decode cX8_needed 54 = .ok (.if_icmp .ne 5, 3) := by decide +kernel
theorem dX8_needed_57 : decode cX8_needed 57 = .ok (.iconst 0, 1) := by decide +kernel
theorem dX8_needed_58 : decode cX8_needed 58 = .ok (.ireturn, 1) := by decide +kernel
theorem dX8_needed_59 : decode cX8_needed 59 = .ok (.iconst 0, 1) := by decide +kernel
theorem dX8_needed_60 : decode cX8_needed 60 = .ok (.istore_n 3, 1) := by decide +kernel
theorem dX8_needed_61 : decode cX8_needed 61 = .ok (.iconst 0, 1) := by decide +kernel
theorem dX8_needed_62 : decode cX8_needed 62 = .ok (.istore 4, 2) := by decide +kernel
theorem dX8_needed_64 : decode cX8_needed 64 = .ok (.iload 4, 2) := by decide +kernel
theorem dX8_needed_66 : decode cX8_needed 66 = .ok (.aload_n 0, 1) := by decide +kernel
theorem dX8_needed_67 : decode cX8_needed 67 = .ok (.getfield 19, 3) := by decide +kernel
theorem dX8_needed_70 : decode cX8_needed 70 = .ok (.iconst 2, 1) := by decide +kernel
theorem dX8_needed_71 : decode cX8_needed 71 = .ok (.iaload, 1) := by decide +kernel
theorem dX8_needed_72 : decode cX8_needed 72 = .ok (.if_icmp .ge 60, 3) := by decide +kernel
theorem dX8_needed_75 : decode cX8_needed 75 = .ok (.aload_n 0, 1) := by decide +kernel
theorem dX8_needed_76 : decode cX8_needed 76 = .ok (.invokevirtual 233, 3) := by decide +kernel
theorem dX8_needed_79 : decode cX8_needed 79 = .ok (.iload 4, 2) := by decide +kernel
theorem dX8_needed_81 : decode cX8_needed 81 = .ok (.invokestatic 171, 3) := by decide +kernel
theorem dX8_needed_84 : decode cX8_needed 84 = .ok (.ifCond .eq 42, 3) := by decide +kernel
theorem dX8_needed_87 : decode cX8_needed 87 = .ok (.aload_n 0, 1) := by decide +kernel
theorem dX8_needed_88 : decode cX8_needed 88 = .ok (.invokevirtual 220, 3) := by decide +kernel
theorem dX8_needed_91 : decode cX8_needed 91 = .ok (.aload_n 0, 1) := by decide +kernel
theorem dX8_needed_92 : decode cX8_needed 92 = .ok (.getfield 25, 3) := by decide +kernel
theorem dX8_needed_95 : decode cX8_needed 95 = .ok (.iconst 4, 1) := by decide +kernel
theorem dX8_needed_96 : decode cX8_needed 96 = .ok (.dup2, 1) := by decide +kernel
theorem dX8_needed_97 : decode cX8_needed 97 = .ok (.iaload, 1) := by decide +kernel
theorem dX8_needed_98 : decode cX8_needed 98 = .ok (.iconst 1, 1) := by decide +kernel
theorem dX8_needed_99 : decode cX8_needed 99 = .ok (.iload 4, 2) := by decide +kernel
theorem dX8_needed_101 : decode cX8_needed 101 = .ok (.ishl, 1) := by decide +kernel
theorem dX8_needed_102 : decode cX8_needed 102 = .ok (.ior, 1) := by decide +kernel
theorem dX8_needed_103 : decode cX8_needed 103 = .ok (.iastore, 1) := by decide +kernel
theorem dX8_needed_104 : decode cX8_needed 104 = .ok (.iload_n 3, 1) := by decide +kernel
theorem dX8_needed_105 : decode cX8_needed 105 = .ok (.aload_n 0, 1) := by decide +kernel
theorem dX8_needed_106 : decode cX8_needed 106 = .ok (.iload_n 1, 1) := by decide +kernel
theorem dX8_needed_107 : decode cX8_needed 107 = .ok (.iload_n 2, 1) := by decide +kernel
theorem dX8_needed_108 : decode cX8_needed 108 = .ok (.invokevirtual 227, 3) := by decide +kernel
theorem dX8_needed_111 : decode cX8_needed 111 = .ok (.ldc 96, 2) := by decide +kernel
theorem dX8_needed_113 : decode cX8_needed 113 = .ok (.if_icmp .ne 10, 3) := by decide +kernel
theorem dX8_needed_116 : decode cX8_needed 116 = .ok (.iconst 1, 1) := by decide +kernel
theorem dX8_needed_117 : decode cX8_needed 117 = .ok (.iload 4, 2) := by decide +kernel
theorem dX8_needed_119 : decode cX8_needed 119 = .ok (.ishl, 1) := by decide +kernel
theorem dX8_needed_120 : decode cX8_needed 120 = .ok (.goto 4, 3) := by decide +kernel
theorem dX8_needed_123 : decode cX8_needed 123 = .ok (.iconst 0, 1) := by decide +kernel
theorem dX8_needed_124 : decode cX8_needed 124 = .ok (.ior, 1) := by decide +kernel
theorem dX8_needed_125 : decode cX8_needed 125 = .ok (.istore_n 3, 1) := by decide +kernel
theorem dX8_needed_126 : decode cX8_needed 126 = .ok (.iinc 4 1, 3) := by decide +kernel
theorem dX8_needed_129 : decode cX8_needed 129 = .ok (.goto (-65), 3) := by decide +kernel
theorem dX8_needed_132 : decode cX8_needed 132 = .ok (.iload_n 3, 1) := by decide +kernel
theorem dX8_needed_133 : decode cX8_needed 133 = .ok (.ireturn, 1) := by decide +kernel
theorem dX8_meet_0 : decode cX8_meet 0 = .ok (.aload_n 0, 1) := by decide +kernel
theorem dX8_meet_1 : decode cX8_meet 1 = .ok (.iconst 0, 1) := by decide +kernel
theorem dX8_meet_2 : decode cX8_meet 2 = .ok (.putfield 53, 3) := by decide +kernel
theorem dX8_meet_5 : decode cX8_meet 5 = .ok (.aload_n 0, 1) := by decide +kernel
theorem dX8_meet_6 : decode cX8_meet 6 = .ok (.iload_n 1, 1) := by decide +kernel
theorem dX8_meet_7 : decode cX8_meet 7 = .ok (.invokevirtual 211, 3) := by decide +kernel
theorem dX8_meet_10 : decode cX8_meet 10 = .ok (.ifCond .eq 16, 3) := by decide +kernel
theorem dX8_meet_13 : decode cX8_meet 13 = .ok (.aload_n 0, 1) := by decide +kernel
theorem dX8_meet_14 : decode cX8_meet 14 = .ok (.iload_n 2, 1) := by decide +kernel
theorem dX8_meet_15 : decode cX8_meet 15 = .ok (.invokevirtual 211, 3) := by decide +kernel
theorem dX8_meet_18 : decode cX8_meet 18 = .ok (.ifCond .eq 8, 3) := by decide +kernel
theorem dX8_meet_21 : decode cX8_meet 21 = .ok (.iload_n 1, 1) := by decide +kernel
theorem dX8_meet_22 : decode cX8_meet 22 = .ok (.iload_n 2, 1) := by decide +kernel
theorem dX8_meet_23 : decode cX8_meet 23 = .ok (.if_icmp .ne 6, 3) := by decide +kernel
theorem dX8_meet_26 : decode cX8_meet 26 = .ok (.ldc 73, 2) := by decide +kernel
theorem dX8_meet_28 : decode cX8_meet 28 = .ok (.ireturn, 1) := by decide +kernel
theorem dX8_meet_29 : decode cX8_meet 29 = .ok (.iconst 0, 1) := by decide +kernel
theorem dX8_meet_30 : decode cX8_meet 30 = .ok (.istore_n 3, 1) := by decide +kernel
theorem dX8_meet_31 : decode cX8_meet 31 = .ok (.iload_n 3, 1) := by decide +kernel
theorem dX8_meet_32 : decode cX8_meet 32 = .ok (.bipush 99, 2) := by decide +kernel
theorem dX8_meet_34 : decode cX8_meet 34 = .ok (.if_icmp .gt 46, 3) := by decide +kernel
theorem dX8_meet_37 : decode cX8_meet 37 = .ok (.aload_n 0, 1) := by decide +kernel
theorem dX8_meet_38 : decode cX8_meet 38 = .ok (.getfield 19, 3) := by decide +kernel
theorem dX8_meet_41 : decode cX8_meet 41 = .ok (.iload_n 1, 1) := by decide +kernel
theorem dX8_meet_42 : decode cX8_meet 42 = .ok (.aload_n 0, 1) := by decide +kernel
theorem dX8_meet_43 : decode cX8_meet 43 = .ok (.getfield 19, 3) := by decide +kernel
theorem dX8_meet_46 : decode cX8_meet 46 = .ok (.iconst 3, 1) := by decide +kernel
theorem dX8_meet_47 : decode cX8_meet 47 = .ok (.iaload, 1) := by decide +kernel
theorem dX8_meet_48 : decode cX8_meet 48 = .ok (.iload_n 3, 1) := by decide +kernel
theorem dX8_meet_49 : decode cX8_meet 49 = .ok (.iadd, 1) := by decide +kernel
theorem dX8_meet_50 : decode cX8_meet 50 = .ok (.invokestatic 175, 3) := by decide +kernel
theorem dX8_meet_53 : decode cX8_meet 53 = .ok (.aload_n 0, 1) := by decide +kernel
theorem dX8_meet_54 : decode cX8_meet 54 = .ok (.getfield 19, 3) := by decide +kernel
theorem dX8_meet_57 : decode cX8_meet 57 = .ok (.iload_n 2, 1) := by decide +kernel
theorem dX8_meet_58 : decode cX8_meet 58 = .ok (.aload_n 0, 1) := by decide +kernel
theorem dX8_meet_59 : decode cX8_meet 59 = .ok (.getfield 19, 3) := by decide +kernel
theorem dX8_meet_62 : decode cX8_meet 62 = .ok (.iconst 3, 1) := by decide +kernel
theorem dX8_meet_63 : decode cX8_meet 63 = .ok (.iaload, 1) := by decide +kernel
theorem dX8_meet_64 : decode cX8_meet 64 = .ok (.iload_n 3, 1) := by decide +kernel
theorem dX8_meet_65 : decode cX8_meet 65 = .ok (.iadd, 1) := by decide +kernel
theorem dX8_meet_66 : decode cX8_meet 66 = .ok (.invokestatic 175, 3) := by decide +kernel
theorem dX8_meet_69 : decode cX8_meet 69 = .ok (.if_icmp .ne 5, 3) := by decide +kernel
theorem dX8_meet_72 : decode cX8_meet 72 = .ok (.iload_n 3, 1) := by decide +kernel
theorem dX8_meet_73 : decode cX8_meet 73 = .ok (.ireturn, 1) := by decide +kernel
theorem dX8_meet_74 : decode cX8_meet 74 = .ok (.iinc 3 1, 3) := by decide +kernel
theorem dX8_meet_77 : decode cX8_meet 77 = .ok (.goto (-46), 3) := by decide +kernel
theorem dX8_meet_80 : decode cX8_meet 80 = .ok (.ldc 96, 2) := by decide +kernel
theorem dX8_meet_82 : decode cX8_meet 82 = .ok (.ireturn, 1) := by decide +kernel
theorem dX8_answer_0 : decode cX8_answer 0 = .ok (.aload_n 0, 1) := by decide +kernel
theorem dX8_answer_1 : decode cX8_answer 1 = .ok (.iconst 0, 1) := by decide +kernel
theorem dX8_answer_2 : decode cX8_answer 2 = .ok (.putfield 53, 3) := by decide +kernel
theorem dX8_answer_5 : decode cX8_answer 5 = .ok (.aload_n 0, 1) := by decide +kernel
theorem dX8_answer_6 : decode cX8_answer 6 = .ok (.iload_n 1, 1) := by decide +kernel
theorem dX8_answer_7 : decode cX8_answer 7 = .ok (.invokevirtual 198, 3) := by decide +kernel
theorem dX8_answer_10 : decode cX8_answer 10 = .ok (.ifCond .ne 6, 3) := by decide +kernel
theorem dX8_answer_13 : decode cX8_answer 13 = .ok (.ldc 73, 2) := by decide +kernel
theorem dX8_answer_15 : decode cX8_answer 15 = .ok (.ireturn, 1) := by decide +kernel
theorem dX8_answer_16 : decode cX8_answer 16 = .ok (.aload_n 0, 1) := by decide +kernel
theorem dX8_answer_17 : decode cX8_answer 17 = .ok (.getfield 19, 3) := by decide +kernel
theorem dX8_answer_20 : decode cX8_answer 20 = .ok (.iload_n 1, 1) := by decide +kernel
theorem dX8_answer_21 : decode cX8_answer 21 = .ok (.invokestatic 164, 3) := by decide +kernel
theorem dX8_answer_24 : decode cX8_answer 24 = .ok (.ifCond .ne 6, 3) := by decide +kernel
theorem dX8_answer_27 : decode cX8_answer 27 = .ok (.ldc 189, 2) := by decide +kernel
theorem dX8_answer_29 : decode cX8_answer 29 = .ok (.ireturn, 1) := by decide +kernel
theorem dX8_answer_30 : decode cX8_answer 30 = .ok (.aload_n 0, 1) := by decide +kernel
theorem dX8_answer_31 : decode cX8_answer 31 = .ok (.invokevirtual 220, 3) := by decide +kernel
theorem dX8_answer_34 : decode cX8_answer 34 = .ok (.aload_n 0, 1) := by decide +kernel
theorem dX8_answer_35 : decode cX8_answer 35 = .ok (.iload_n 1, 1) := by decide +kernel
theorem dX8_answer_36 : decode cX8_answer 36 = .ok (.bipush 99, 2) := by decide +kernel
theorem dX8_answer_38 : decode cX8_answer 38 = .ok (.invokevirtual 227, 3) := by decide +kernel
theorem dX8_answer_41 : decode cX8_answer 41 = .ok (.istore_n 2, 1) := by decide +kernel
theorem dX8_answer_42 : decode cX8_answer 42 = .ok (.iload_n 2, 1) := by decide +kernel
theorem dX8_answer_43 : decode cX8_answer 43 = .ok (.ldc 96, 2) := by decide +kernel
theorem dX8_answer_45 : decode cX8_answer 45 = .ok (.if_icmp .ne 6, 3) := by decide +kernel
theorem dX8_answer_48 : decode cX8_answer 48 = .ok (.ldc 96, 2) := by decide +kernel
theorem dX8_answer_50 : decode cX8_answer 50 = .ok (.ireturn, 1) := by decide +kernel
theorem dX8_answer_51 : decode cX8_answer 51 = .ok (.aload_n 0, 1) := by decide +kernel
theorem dX8_answer_52 : decode cX8_answer 52 = .ok (.getfield 25, 3) := by decide +kernel
theorem dX8_answer_55 : decode cX8_answer 55 = .ok (.iconst 3, 1) := by decide +kernel
theorem dX8_answer_56 : decode cX8_answer 56 = .ok (.aload_n 0, 1) := by decide +kernel
theorem dX8_answer_57 : decode cX8_answer 57 = .ok (.getfield 19, 3) := by decide +kernel
theorem dX8_answer_60 : decode cX8_answer 60 = .ok (.iload_n 1, 1) := by decide +kernel
theorem dX8_answer_61 : decode cX8_answer 61 = .ok (.iconst 2, 1) := by decide +kernel
theorem dX8_answer_62 : decode cX8_answer 62 = .ok (.invokestatic 160, 3) := by decide +kernel
theorem dX8_answer_65 : decode cX8_answer 65 = .ok (.aload_n 0, 1) := by decide +kernel
theorem dX8_answer_66 : decode cX8_answer 66 = .ok (.getfield 19, 3) := by decide +kernel
theorem dX8_answer_69 : decode cX8_answer 69 = .ok (.iload_n 1, 1) := by decide +kernel
theorem dX8_answer_70 : decode cX8_answer 70 = .ok (.iconst 1, 1) := by decide +kernel
theorem dX8_answer_71 : decode cX8_answer 71 = .ok (.invokestatic 160, 3) := by decide +kernel
theorem dX8_answer_74 : decode cX8_answer 74 = .ok (.invokestatic 204, 3) := by decide +kernel
theorem dX8_answer_77 : decode cX8_answer 77 = .ok (.aload_n 0, 1) := by decide +kernel
theorem dX8_answer_78 : decode cX8_answer 78 = .ok (.iconst 3, 1) := by decide +kernel
theorem dX8_answer_79 : decode cX8_answer 79 = .ok (.bipush 99, 2) := by decide +kernel
theorem dX8_answer_81 : decode cX8_answer 81 = .ok (.invokevirtual 227, 3) := by decide +kernel
theorem dX8_answer_84 : decode cX8_answer 84 = .ok (.istore_n 3, 1) := by decide +kernel
theorem dX8_answer_85 : decode cX8_answer 85 = .ok (.iload_n 3, 1) := by decide +kernel
theorem dX8_answer_86 : decode cX8_answer 86 = .ok (.ldc 96, 2) := by decide +kernel
theorem dX8_answer_88 : decode cX8_answer 88 = .ok (.if_icmp .ne 8, 3) := by decide +kernel
theorem dX8_answer_91 : decode cX8_answer 91 = .ok (.ldc 96, 2) := by decide +kernel
theorem dX8_answer_93 : decode cX8_answer 93 = .ok (.goto 6, 3) := by decide +kernel
theorem dX8_answer_96 : decode cX8_answer 96 = .ok (.iload_n 2, 1) := by decide +kernel
theorem dX8_answer_97 : decode cX8_answer 97 = .ok (.iload_n 3, 1) := by decide +kernel
theorem dX8_answer_98 : decode cX8_answer 98 = .ok (.iadd, 1) := by decide +kernel
theorem dX8_answer_99 : decode cX8_answer 99 = .ok (.ireturn, 1) := by decide +kernel
theorem dX8_isSo_0 : decode cX8_isSo 0 = .ok (.iconst 1, 1) := by decide +kernel
theorem dX8_isSo_1 : decode cX8_isSo 1 = .ok (.istore 4, 2) := by decide +kernel
theorem dX8_isSo_3 : decode cX8_isSo 3 = .ok (.iconst 0, 1) := by decide +kernel
theorem dX8_isSo_4 : decode cX8_isSo 4 = .ok (.istore 5, 2) := by decide +kernel
theorem dX8_isSo_6 : decode cX8_isSo 6 = .ok (.iload 5, 2) := by decide +kernel
theorem dX8_isSo_8 : decode cX8_isSo 8 = .ok (.iload_n 3, 1) := by decide +kernel
theorem dX8_isSo_9 : decode cX8_isSo 9 = .ok (.if_icmp .ge 52, 3) := by decide +kernel
theorem dX8_isSo_12 : decode cX8_isSo 12 = .ok (.aload_n 0, 1) := by decide +kernel
theorem dX8_isSo_13 : decode cX8_isSo 13 = .ok (.aload_n 0, 1) := by decide +kernel
theorem dX8_isSo_14 : decode cX8_isSo 14 = .ok (.getfield 25, 3) := by decide +kernel
theorem dX8_isSo_17 : decode cX8_isSo 17 = .ok (.invokevirtual 182, 3) := by decide +kernel
theorem dX8_isSo_20 : decode cX8_isSo 20 = .ok (.istore 6, 2) := by decide +kernel
theorem dX8_isSo_22 : decode cX8_isSo 22 = .ok (.iload 4, 2) := by decide +kernel
theorem dX8_isSo_24 : decode cX8_isSo 24 = .ok (.ifCond .eq 28, 3) := by decide +kernel
theorem dX8_isSo_27 : decode cX8_isSo 27 = .ok (.aload_n 0, 1) := by decide +kernel
theorem dX8_isSo_28 : decode cX8_isSo 28 = .ok (.getfield 25, 3) := by decide +kernel
theorem dX8_isSo_31 : decode cX8_isSo 31 = .ok (.iload_n 1, 1) := by decide +kernel
theorem dX8_isSo_32 : decode cX8_isSo 32 = .ok (.iconst 1, 1) := by decide +kernel
theorem dX8_isSo_33 : decode cX8_isSo 33 = .ok (.invokestatic 160, 3) := by decide +kernel
theorem dX8_isSo_36 : decode cX8_isSo 36 = .ok (.aload_n 0, 1) := by decide +kernel
theorem dX8_isSo_37 : decode cX8_isSo 37 = .ok (.getfield 16, 3) := by decide +kernel
theorem dX8_isSo_40 : decode cX8_isSo 40 = .ok (.iload_n 2, 1) := by decide +kernel
theorem dX8_isSo_41 : decode cX8_isSo 41 = .ok (.iload 5, 2) := by decide +kernel
theorem dX8_isSo_43 : decode cX8_isSo 43 = .ok (.iadd, 1) := by decide +kernel
theorem dX8_isSo_44 : decode cX8_isSo 44 = .ok (.iaload, 1) := by decide +kernel
theorem dX8_isSo_45 : decode cX8_isSo 45 = .ok (.if_icmp .ne 7, 3) := by decide +kernel
theorem dX8_isSo_48 : decode cX8_isSo 48 = .ok (.iconst 1, 1) := by decide +kernel
theorem dX8_isSo_49 : decode cX8_isSo 49 = .ok (.goto 4, 3) := by decide +kernel
theorem dX8_isSo_52 : decode cX8_isSo 52 = .ok (.iconst 0, 1) := by decide +kernel
theorem dX8_isSo_53 : decode cX8_isSo 53 = .ok (.istore 4, 2) := by decide +kernel
theorem dX8_isSo_55 : decode cX8_isSo 55 = .ok (.iinc 5 1, 3) := by decide +kernel
theorem dX8_isSo_58 : decode cX8_isSo 58 = .ok (.goto (-52), 3) := by decide +kernel
theorem dX8_isSo_61 : decode cX8_isSo 61 = .ok (.iload 4, 2) := by decide +kernel
theorem dX8_isSo_63 : decode cX8_isSo 63 = .ok (.ireturn, 1) := by decide +kernel
theorem dX8_rowFound_0 : decode cX8_rowFound 0 = .ok (.aload_n 0, 1) := by decide +kernel
theorem dX8_rowFound_1 : decode cX8_rowFound 1 = .ok (.getfield 7, 3) := by decide +kernel
theorem dX8_rowFound_4 : decode cX8_rowFound 4 = .ok (.iload_n 1, 1) := by decide +kernel
theorem dX8_rowFound_5 : decode cX8_rowFound 5 = .ok (.iaload, 1) := by decide +kernel
theorem dX8_rowFound_6 : decode cX8_rowFound 6 = .ok (.ifCond .ge 9, 3) := by decide +kernel
theorem dX8_rowFound_9 : decode cX8_rowFound 9 = .ok (.aload_n 0, 1) := by decide +kernel
theorem dX8_rowFound_10 : decode cX8_rowFound 10 = .ok (.iconst 1, 1) := by decide +kernel
theorem dX8_rowFound_11 : decode cX8_rowFound 11 = .ok (.invokevirtual 74, 3) := by decide +kernel
theorem dX8_rowFound_14 : decode cX8_rowFound 14 = .ok (.ireturn, 1) := by decide +kernel
theorem dX8_rowFound_15 : decode cX8_rowFound 15 = .ok (.iload_n 2, 1) := by decide +kernel
theorem dX8_rowFound_16 : decode cX8_rowFound 16 = .ok (.ifCond .lt 19, 3) := by decide +kernel
theorem dX8_rowFound_19 : decode cX8_rowFound 19 = .ok (.iload_n 2, 1) := by decide +kernel
theorem dX8_rowFound_20 : decode cX8_rowFound 20 = .ok (.i2l, 1) := by decide +kernel
theorem dX8_rowFound_21 : decode cX8_rowFound 21 = .ok (.iload_n 3, 1) := by decide +kernel
theorem dX8_rowFound_22 : decode cX8_rowFound 22 = .ok (.i2l, 1) := by decide +kernel
theorem dX8_rowFound_23 : decode cX8_rowFound 23 = .ok (.ladd, 1) := by decide +kernel
theorem dX8_rowFound_24 : decode cX8_rowFound 24 = .ok (.aload_n 0, 1) := by decide +kernel
theorem dX8_rowFound_25 : decode cX8_rowFound 25 = .ok (.getfield 13, 3) := by decide +kernel
theorem dX8_rowFound_28 : decode cX8_rowFound 28 = .ok (.iload_n 1, 1) := by decide +kernel
theorem dX8_rowFound_29 : decode cX8_rowFound 29 = .ok (.iaload, 1) := by decide +kernel
theorem dX8_rowFound_30 : decode cX8_rowFound 30 = .ok (.i2l, 1) := by decide +kernel
theorem dX8_rowFound_31 : decode cX8_rowFound 31 = .ok (.lcmp, 1) := by decide +kernel
theorem dX8_rowFound_32 : decode cX8_rowFound 32 = .ok (.ifCond .le 9, 3) := by decide +kernel
theorem dX8_rowFound_35 : decode cX8_rowFound 35 = .ok (.aload_n 0, 1) := by decide +kernel
theorem dX8_rowFound_36 : decode cX8_rowFound 36 = .ok (.iconst 2, 1) := by decide +kernel
theorem dX8_rowFound_37 : decode cX8_rowFound 37 = .ok (.invokevirtual 74, 3) := by decide +kernel
theorem dX8_rowFound_40 : decode cX8_rowFound 40 = .ok (.ireturn, 1) := by decide +kernel
theorem dX8_rowFound_41 : decode cX8_rowFound 41 = .ok (.aload_n 0, 1) := by decide +kernel
theorem dX8_rowFound_42 : decode cX8_rowFound 42 = .ok (.iconst 0, 1) := by decide +kernel
theorem dX8_rowFound_43 : decode cX8_rowFound 43 = .ok (.putfield 57, 3) := by decide +kernel
theorem dX8_rowFound_46 : decode cX8_rowFound 46 = .ok (.iconst 0, 1) := by decide +kernel
theorem dX8_rowFound_47 : decode cX8_rowFound 47 = .ok (.ireturn, 1) := by decide +kernel
theorem dX8_who_0 : decode cX8_who 0 = .ok (.aload_n 0, 1) := by decide +kernel
theorem dX8_who_1 : decode cX8_who 1 = .ok (.iconst 0, 1) := by decide +kernel
theorem dX8_who_2 : decode cX8_who 2 = .ok (.putfield 53, 3) := by decide +kernel
theorem dX8_who_5 : decode cX8_who 5 = .ok (.aload_n 0, 1) := by decide +kernel
theorem dX8_who_6 : decode cX8_who 6 = .ok (.iload_n 1, 1) := by decide +kernel
theorem dX8_who_7 : decode cX8_who 7 = .ok (.invokevirtual 211, 3) := by decide +kernel
theorem dX8_who_10 : decode cX8_who 10 = .ok (.ifCond .eq 42, 3) := by decide +kernel
theorem dX8_who_13 : decode cX8_who 13 = .ok (.iload_n 2, 1) := by decide +kernel
theorem dX8_who_14 : decode cX8_who 14 = .ok (.i2l, 1) := by decide +kernel
theorem dX8_who_15 : decode cX8_who 15 = .ok (.lconst 0, 1) := by decide +kernel
theorem dX8_who_16 : decode cX8_who 16 = .ok (.lconst 1, 1) := by decide +kernel
theorem dX8_who_17 : decode cX8_who 17 = .ok (.invokestatic 63, 3) := by decide +kernel
theorem dX8_who_20 : decode cX8_who 20 = .ok (.ifCond .eq 32, 3) := by decide +kernel
theorem dX8_who_23 : decode cX8_who 23 = .ok (.aload_n 0, 1) := by decide +kernel
theorem dX8_who_24 : decode cX8_who 24 = .ok (.iload_n 3, 1) := by decide +kernel
theorem dX8_who_25 : decode cX8_who 25 = .ok (.invokevirtual 198, 3) := by decide +kernel
theorem dX8_who_28 : decode cX8_who 28 = .ok (.ifCond .eq 24, 3) := by decide +kernel
theorem dX8_who_31 : decode cX8_who 31 = .ok (.iload 4, 2) := by decide +kernel
theorem dX8_who_33 : decode cX8_who 33 = .ok (.invokestatic 67, 3) := by decide +kernel
theorem dX8_who_36 : decode cX8_who 36 = .ok (.ifCond .eq 16, 3) := by decide +kernel
theorem dX8_who_39 : decode cX8_who 39 = .ok (.iload 6, 2) := by decide +kernel
theorem dX8_who_41 : decode cX8_who 41 = .ok (.i2l, 1) := by decide +kernel
theorem dX8_who_42 : decode cX8_who 42 = .ok (.lconst 1, 1) := by decide +kernel
theorem dX8_who_43 : decode cX8_who 43 = .ok (.ldc2_w 240, 3) := by decide +kernel
theorem dX8_who_46 : decode cX8_who 46 = .ok (.invokestatic 63, 3) := by decide +kernel
theorem dX8_who_49 : decode cX8_who 49 = .ok (.ifCond .ne 6, 3) := by decide +kernel
theorem dX8_who_52 : decode cX8_who 52 = .ok (.ldc 73, 2) := by decide +kernel
theorem dX8_who_54 : decode cX8_who 54 = .ok (.ireturn, 1) := by decide +kernel
theorem dX8_who_55 : decode cX8_who 55 = .ok (.aload_n 0, 1) := by decide +kernel
theorem dX8_who_56 : decode cX8_who 56 = .ok (.getfield 19, 3) := by decide +kernel
theorem dX8_who_59 : decode cX8_who 59 = .ok (.iload_n 3, 1) := by decide +kernel
theorem dX8_who_60 : decode cX8_who 60 = .ok (.invokestatic 164, 3) := by decide +kernel
theorem dX8_who_63 : decode cX8_who 63 = .ok (.ifCond .ne 6, 3) := by decide +kernel
theorem dX8_who_66 : decode cX8_who 66 = .ok (.ldc 189, 2) := by decide +kernel
theorem dX8_who_68 : decode cX8_who 68 = .ok (.ireturn, 1) := by decide +kernel
theorem dX8_who_69 : decode cX8_who 69 = .ok (.aload_n 0, 1) := by decide +kernel
theorem dX8_who_70 : decode cX8_who 70 = .ok (.iload 4, 2) := by decide +kernel
theorem dX8_who_72 : decode cX8_who 72 = .ok (.iload 5, 2) := by decide +kernel
theorem dX8_who_74 : decode cX8_who 74 = .ok (.iload 6, 2) := by decide +kernel
theorem dX8_who_76 : decode cX8_who 76 = .ok (.invokevirtual 242, 3) := by decide +kernel
theorem dX8_who_79 : decode cX8_who 79 = .ok (.istore 7, 2) := by decide +kernel
theorem dX8_who_81 : decode cX8_who 81 = .ok (.iload 7, 2) := by decide +kernel
theorem dX8_who_83 : decode cX8_who 83 = .ok (.ifCond .eq 6, 3) := by decide +kernel
theorem dX8_who_86 : decode cX8_who 86 = .ok (.iload 7, 2) := by decide +kernel
theorem dX8_who_88 : decode cX8_who 88 = .ok (.ireturn, 1) := by decide +kernel
theorem dX8_who_89 : decode cX8_who 89 = .ok (.iconst 0, 1) := by decide +kernel
theorem dX8_who_90 : decode cX8_who 90 = .ok (.istore 8, 2) := by decide +kernel
theorem dX8_who_92 : decode cX8_who 92 = .ok (.iload_n 2, 1) := by decide +kernel
theorem dX8_who_93 : decode cX8_who 93 = .ok (.ifCond .ne 7, 3) := by decide +kernel
theorem dX8_who_96 : decode cX8_who 96 = .ok (.iconst 1, 1) := by decide +kernel
theorem dX8_who_97 : decode cX8_who 97 = .ok (.goto 4, 3) := by decide +kernel
theorem dX8_who_100 : decode cX8_who 100 = .ok (.iconst 0, 1) := by decide +kernel
theorem dX8_who_101 : decode cX8_who 101 = .ok (.istore 9, 2) := by decide +kernel
theorem dX8_who_103 : decode cX8_who 103 = .ok (.iload 9, 2) := by decide +kernel
theorem dX8_who_105 : decode cX8_who 105 = .ok (.iload_n 2, 1) := by decide +kernel
theorem dX8_who_106 : decode cX8_who 106 = .ok (.ifCond .ne 7, 3) := by decide +kernel
theorem dX8_who_109 : decode cX8_who 109 = .ok (.iconst 5, 1) := by decide +kernel
theorem dX8_who_110 : decode cX8_who 110 = .ok (.goto 5, 3) := by decide +kernel
theorem dX8_who_113 : decode cX8_who 113 = .ok (.bipush 23, 2) := by decide +kernel
theorem dX8_who_115 : decode cX8_who 115 = .ok (.if_icmp .gt 67, 3) := by decide +kernel
theorem dX8_who_118 : decode cX8_who 118 = .ok (.aload_n 0, 1) := by decide +kernel
theorem dX8_who_119 : decode cX8_who 119 = .ok (.invokevirtual 220, 3) := by decide +kernel
theorem dX8_who_122 : decode cX8_who 122 = .ok (.aload_n 0, 1) := by decide +kernel
theorem dX8_who_123 : decode cX8_who 123 = .ok (.getfield 25, 3) := by decide +kernel
theorem dX8_who_126 : decode cX8_who 126 = .ok (.bipush 17, 2) := by decide +kernel
theorem dX8_who_128 : decode cX8_who 128 = .ok (.iconst 4, 1) := by decide +kernel
theorem dX8_who_129 : decode cX8_who 129 = .ok (.iload_n 1, 1) := by decide +kernel
theorem dX8_who_130 : decode cX8_who 130 = .ok (.imul, 1) := by decide +kernel
theorem dX8_who_131 : decode cX8_who 131 = .ok (.iadd, 1) := by decide +kernel
theorem dX8_who_132 : decode cX8_who 132 = .ok (.iload_n 2, 1) := by decide +kernel
theorem dX8_who_133 : decode cX8_who 133 = .ok (.ifCond .ne 7, 3) := by decide +kernel
theorem dX8_who_136 : decode cX8_who 136 = .ok (.iconst 0, 1) := by decide +kernel
theorem dX8_who_137 : decode cX8_who 137 = .ok (.goto 4, 3) := by decide +kernel
theorem dX8_who_140 : decode cX8_who 140 = .ok (.iconst 3, 1) := by decide +kernel
theorem dX8_who_141 : decode cX8_who 141 = .ok (.iadd, 1) := by decide +kernel
theorem dX8_who_142 : decode cX8_who 142 = .ok (.iload 9, 2) := by decide +kernel
theorem dX8_who_144 : decode cX8_who 144 = .ok (.iastore, 1) := by decide +kernel
theorem dX8_who_145 : decode cX8_who 145 = .ok (.iload 8, 2) := by decide +kernel
theorem dX8_who_147 : decode cX8_who 147 = .ok (.aload_n 0, 1) := by decide +kernel
theorem dX8_who_148 : decode cX8_who 148 = .ok (.iload_n 3, 1) := by decide +kernel
theorem dX8_who_149 : decode cX8_who 149 = .ok (.bipush 40, 2) := by decide +kernel
theorem dX8_who_151 : decode cX8_who 151 = .ok (.iload 4, 2) := by decide +kernel
theorem dX8_who_153 : decode cX8_who 153 = .ok (.imul, 1) := by decide +kernel
theorem dX8_who_154 : decode cX8_who 154 = .ok (.iload 5, 2) := by decide +kernel
theorem dX8_who_156 : decode cX8_who 156 = .ok (.iadd, 1) := by decide +kernel
theorem dX8_who_157 : decode cX8_who 157 = .ok (.iload 6, 2) := by decide +kernel
theorem dX8_who_159 : decode cX8_who 159 = .ok (.invokevirtual 246, 3) := by decide +kernel
theorem dX8_who_162 : decode cX8_who 162 = .ok (.ifCond .eq 10, 3) := by decide +kernel
theorem dX8_who_165 : decode cX8_who 165 = .ok (.iconst 1, 1) := by decide +kernel
theorem dX8_who_166 : decode cX8_who 166 = .ok (.iload 9, 2) := by decide +kernel
theorem dX8_who_168 : decode cX8_who 168 = .ok (.ishl, 1) := by decide +kernel
theorem dX8_who_169 : decode cX8_who 169 = .ok (.goto 4, 3) := by decide +kernel
theorem dX8_who_172 : decode cX8_who 172 = .ok (.iconst 0, 1) := by decide +kernel
theorem dX8_who_173 : decode cX8_who 173 = .ok (.ior, 1) := by decide +kernel
theorem dX8_who_174 : decode cX8_who 174 = .ok (.istore 8, 2) := by decide +kernel
theorem dX8_who_176 : decode cX8_who 176 = .ok (.iinc 9 1, 3) := by decide +kernel
theorem dX8_who_179 : decode cX8_who 179 = .ok (.goto (-76), 3) := by decide +kernel
theorem dX8_who_182 : decode cX8_who 182 = .ok (.iload 8, 2) := by decide +kernel
theorem dX8_who_184 : decode cX8_who 184 = .ok (.ireturn, 1) := by decide +kernel
theorem dX8_missing_0 : decode cX8_missing 0 = .ok (.aload_n 0, 1) := by decide +kernel
theorem dX8_missing_1 : decode cX8_missing 1 = .ok (.iconst 0, 1) := by decide +kernel
theorem dX8_missing_2 : decode cX8_missing 2 = .ok (.putfield 53, 3) := by decide +kernel
theorem dX8_missing_5 : decode cX8_missing 5 = .ok (.aload_n 0, 1) := by decide +kernel
theorem dX8_missing_6 : decode cX8_missing 6 = .ok (.iload_n 1, 1) := by decide +kernel
theorem dX8_missing_7 : decode cX8_missing 7 = .ok (.invokevirtual 198, 3) := by decide +kernel
theorem dX8_missing_10 : decode cX8_missing 10 = .ok (.ifCond .eq 23, 3) := by decide +kernel
theorem dX8_missing_13 : decode cX8_missing 13 = .ok (.iload_n 2, 1) := by decide +kernel
theorem dX8_missing_14 : decode cX8_missing 14 = .ok (.invokestatic 67, 3) := by decide +kernel
theorem dX8_missing_17 : decode cX8_missing 17 = .ok (.ifCond .eq 16, 3) := by decide +kernel
theorem dX8_missing_20 : decode cX8_missing 20 = .ok (.iload 4, 2) := by decide +kernel
theorem dX8_missing_22 : decode cX8_missing 22 = .ok (.i2l, 1) := by decide +kernel
theorem dX8_missing_23 : decode cX8_missing 23 = .ok (.lconst 1, 1) := by decide +kernel
theorem dX8_missing_24 : decode cX8_missing 24 = .ok (.ldc2_w 240, 3) := by decide +kernel
theorem dX8_missing_27 : decode cX8_missing 27 = .ok (.invokestatic 63, 3) := by decide +kernel
theorem dX8_missing_30 : decode cX8_missing 30 = .ok (.ifCond .ne 6, 3) := by decide +kernel
theorem dX8_missing_33 : decode cX8_missing 33 = .ok (.ldc 73, 2) := by decide +kernel
theorem dX8_missing_35 : decode cX8_missing 35 = .ok (.ireturn, 1) := by decide +kernel
theorem dX8_missing_36 : decode cX8_missing 36 = .ok (.aload_n 0, 1) := by decide +kernel
theorem dX8_missing_37 : decode cX8_missing 37 = .ok (.getfield 19, 3) := by decide +kernel
theorem dX8_missing_40 : decode cX8_missing 40 = .ok (.iload_n 1, 1) := by decide +kernel
theorem dX8_missing_41 : decode cX8_missing 41 = .ok (.invokestatic 164, 3) := by decide +kernel
theorem dX8_missing_44 : decode cX8_missing 44 = .ok (.ifCond .ne 6, 3) := by decide +kernel
theorem dX8_missing_47 : decode cX8_missing 47 = .ok (.ldc 189, 2) := by decide +kernel
theorem dX8_missing_49 : decode cX8_missing 49 = .ok (.ireturn, 1) := by decide +kernel
theorem dX8_missing_50 : decode cX8_missing 50 = .ok (.aload_n 0, 1) := by decide +kernel
theorem dX8_missing_51 : decode cX8_missing 51 = .ok (.iload_n 2, 1) := by decide +kernel
theorem dX8_missing_52 : decode cX8_missing 52 = .ok (.iload_n 3, 1) := by decide +kernel
theorem dX8_missing_53 : decode cX8_missing 53 = .ok (.iload 4, 2) := by decide +kernel
theorem dX8_missing_55 : decode cX8_missing 55 = .ok (.invokevirtual 242, 3) := by decide +kernel
theorem dX8_missing_58 : decode cX8_missing 58 = .ok (.istore 5, 2) := by decide +kernel
theorem dX8_missing_60 : decode cX8_missing 60 = .ok (.iload 5, 2) := by decide +kernel
theorem dX8_missing_62 : decode cX8_missing 62 = .ok (.ifCond .eq 6, 3) := by decide +kernel
theorem dX8_missing_65 : decode cX8_missing 65 = .ok (.iload 5, 2) := by decide +kernel
theorem dX8_missing_67 : decode cX8_missing 67 = .ok (.ireturn, 1) := by decide +kernel
theorem dX8_missing_68 : decode cX8_missing 68 = .ok (.aload_n 0, 1) := by decide +kernel
theorem dX8_missing_69 : decode cX8_missing 69 = .ok (.invokevirtual 220, 3) := by decide +kernel
theorem dX8_missing_72 : decode cX8_missing 72 = .ok (.aload_n 0, 1) := by decide +kernel
theorem dX8_missing_73 : decode cX8_missing 73 = .ok (.iload_n 1, 1) := by decide +kernel
theorem dX8_missing_74 : decode cX8_missing 74 = .ok (.bipush 40, 2) := by decide +kernel
theorem dX8_missing_76 : decode cX8_missing 76 = .ok (.iload_n 2, 1) := by decide +kernel
theorem dX8_missing_77 : decode cX8_missing 77 = .ok (.imul, 1) := by decide +kernel
theorem dX8_missing_78 : decode cX8_missing 78 = .ok (.iload_n 3, 1) := by decide +kernel
theorem dX8_missing_79 : decode cX8_missing 79 = .ok (.iadd, 1) := by decide +kernel
theorem dX8_missing_80 : decode cX8_missing 80 = .ok (.iload 4, 2) := by decide +kernel
theorem dX8_missing_82 : decode cX8_missing 82 = .ok (.invokevirtual 246, 3) := by decide +kernel
theorem dX8_missing_85 : decode cX8_missing 85 = .ok (.ifCond .eq 8, 3) := by decide +kernel
theorem dX8_missing_88 : decode cX8_missing 88 = .ok (.bipush 64, 2) := by decide +kernel
theorem dX8_missing_90 : decode cX8_missing 90 = .ok (.goto 4, 3) := by decide +kernel
theorem dX8_missing_93 : decode cX8_missing 93 = .ok (.iconst 0, 1) := by decide +kernel
theorem dX8_missing_94 : decode cX8_missing 94 = .ok (.istore 6, 2) := by decide +kernel
theorem dX8_missing_96 : decode cX8_missing 96 = .ok (.iconst 0, 1) := by decide +kernel
theorem dX8_missing_97 : decode cX8_missing 97 = .ok (.istore 7, 2) := by decide +kernel
theorem dX8_missing_99 : decode cX8_missing 99 = .ok (.iload 7, 2) := by decide +kernel
theorem dX8_missing_101 : decode cX8_missing 101 = .ok (.aload_n 0, 1) := by decide +kernel
theorem dX8_missing_102 : decode cX8_missing 102 = .ok (.getfield 19, 3) := by decide +kernel
theorem dX8_missing_105 : decode cX8_missing 105 = .ok (.iconst 2, 1) := by decide +kernel
theorem dX8_missing_106 : decode cX8_missing 106 = .ok (.iaload, 1) := by decide +kernel
theorem dX8_missing_107 : decode cX8_missing 107 = .ok (.if_icmp .ge 67, 3) := by decide +kernel
theorem dX8_missing_110 : decode cX8_missing 110 = .ok (.aload_n 0, 1) := by decide +kernel
theorem dX8_missing_111 : decode cX8_missing 111 = .ok (.invokevirtual 233, 3) := by decide +kernel
theorem dX8_missing_114 : decode cX8_missing 114 = .ok (.iload 7, 2) := by decide +kernel
theorem dX8_missing_116 : decode cX8_missing 116 = .ok (.invokestatic 171, 3) := by decide +kernel
theorem dX8_missing_119 : decode cX8_missing 119 = .ok (.ifCond .eq 49, 3) := by decide +kernel
theorem dX8_missing_122 : decode cX8_missing 122 = .ok (.aload_n 0, 1) := by decide +kernel
theorem dX8_missing_123 : decode cX8_missing 123 = .ok (.invokevirtual 220, 3) := by decide +kernel
theorem dX8_missing_126 : decode cX8_missing 126 = .ok (.aload_n 0, 1) := by decide +kernel
theorem dX8_missing_127 : decode cX8_missing 127 = .ok (.getfield 25, 3) := by decide +kernel
theorem dX8_missing_130 : decode cX8_missing 130 = .ok (.iconst 4, 1) := by decide +kernel
theorem dX8_missing_131 : decode cX8_missing 131 = .ok (.dup2, 1) := by decide +kernel
theorem dX8_missing_132 : decode cX8_missing 132 = .ok (.iaload, 1) := by decide +kernel
theorem dX8_missing_133 : decode cX8_missing 133 = .ok (.iconst 1, 1) := by decide +kernel
theorem dX8_missing_134 : decode cX8_missing 134 = .ok (.iload 7, 2) := by decide +kernel
theorem dX8_missing_136 : decode cX8_missing 136 = .ok (.ishl, 1) := by decide +kernel
theorem dX8_missing_137 : decode cX8_missing 137 = .ok (.ior, 1) := by decide +kernel
theorem dX8_missing_138 : decode cX8_missing 138 = .ok (.iastore, 1) := by decide +kernel
theorem dX8_missing_139 : decode cX8_missing 139 = .ok (.iload 6, 2) := by decide +kernel
theorem dX8_missing_141 : decode cX8_missing 141 = .ok (.aload_n 0, 1) := by decide +kernel
theorem dX8_missing_142 : decode cX8_missing 142 = .ok (.iload_n 1, 1) := by decide +kernel
theorem dX8_missing_143 : decode cX8_missing 143 = .ok (.bipush 40, 2) := by decide +kernel
theorem dX8_missing_145 : decode cX8_missing 145 = .ok (.iload_n 2, 1) := by decide +kernel
theorem dX8_missing_146 : decode cX8_missing 146 = .ok (.imul, 1) := by decide +kernel
theorem dX8_missing_147 : decode cX8_missing 147 = .ok (.iload_n 3, 1) := by decide +kernel
theorem dX8_missing_148 : decode cX8_missing 148 = .ok (.iadd, 1) := by decide +kernel
theorem dX8_missing_149 : decode cX8_missing 149 = .ok (.iload 4, 2) := by decide +kernel
theorem dX8_missing_151 : decode cX8_missing 151 = .ok (.invokevirtual 246, 3) := by decide +kernel
theorem dX8_missing_154 : decode cX8_missing 154 = .ok (.ifCond .eq 10, 3) := by decide +kernel
theorem dX8_missing_157 : decode cX8_missing 157 = .ok (.iconst 1, 1) := by decide +kernel
theorem dX8_missing_158 : decode cX8_missing 158 = .ok (.iload 7, 2) := by decide +kernel
theorem dX8_missing_160 : decode cX8_missing 160 = .ok (.ishl, 1) := by decide +kernel
theorem dX8_missing_161 : decode cX8_missing 161 = .ok (.goto 4, 3) := by decide +kernel
theorem dX8_missing_164 : decode cX8_missing 164 = .ok (.iconst 0, 1) := by decide +kernel
theorem dX8_missing_165 : decode cX8_missing 165 = .ok (.ior, 1) := by decide +kernel
theorem dX8_missing_166 : decode cX8_missing 166 = .ok (.istore 6, 2) := by decide +kernel
theorem dX8_missing_168 : decode cX8_missing 168 = .ok (.iinc 7 1, 3) := by decide +kernel
theorem dX8_missing_171 : decode cX8_missing 171 = .ok (.goto (-72), 3) := by decide +kernel
theorem dX8_missing_174 : decode cX8_missing 174 = .ok (.iload 6, 2) := by decide +kernel
theorem dX8_missing_176 : decode cX8_missing 176 = .ok (.ireturn, 1) := by decide +kernel
theorem dX8_goals_0 : decode cX8_goals 0 = .ok (.aload_n 0, 1) := by decide +kernel
theorem dX8_goals_1 : decode cX8_goals 1 = .ok (.iconst 0, 1) := by decide +kernel
theorem dX8_goals_2 : decode cX8_goals 2 = .ok (.putfield 53, 3) := by decide +kernel
theorem dX8_goals_5 : decode cX8_goals 5 = .ok (.aload_n 0, 1) := by decide +kernel
theorem dX8_goals_6 : decode cX8_goals 6 = .ok (.iload_n 1, 1) := by decide +kernel
theorem dX8_goals_7 : decode cX8_goals 7 = .ok (.invokevirtual 198, 3) := by decide +kernel
theorem dX8_goals_10 : decode cX8_goals 10 = .ok (.ifCond .eq 23, 3) := by decide +kernel
theorem dX8_goals_13 : decode cX8_goals 13 = .ok (.iload_n 2, 1) := by decide +kernel
theorem dX8_goals_14 : decode cX8_goals 14 = .ok (.invokestatic 67, 3) := by decide +kernel
theorem dX8_goals_17 : decode cX8_goals 17 = .ok (.ifCond .eq 16, 3) := by decide +kernel
theorem dX8_goals_20 : decode cX8_goals 20 = .ok (.iload 4, 2) := by decide +kernel
theorem dX8_goals_22 : decode cX8_goals 22 = .ok (.i2l, 1) := by decide +kernel
theorem dX8_goals_23 : decode cX8_goals 23 = .ok (.lconst 1, 1) := by decide +kernel
theorem dX8_goals_24 : decode cX8_goals 24 = .ok (.ldc2_w 240, 3) := by decide +kernel
theorem dX8_goals_27 : decode cX8_goals 27 = .ok (.invokestatic 63, 3) := by decide +kernel
theorem dX8_goals_30 : decode cX8_goals 30 = .ok (.ifCond .ne 6, 3) := by decide +kernel
theorem dX8_goals_33 : decode cX8_goals 33 = .ok (.ldc 73, 2) := by decide +kernel
theorem dX8_goals_35 : decode cX8_goals 35 = .ok (.ireturn, 1) := by decide +kernel
theorem dX8_goals_36 : decode cX8_goals 36 = .ok (.aload_n 0, 1) := by decide +kernel
theorem dX8_goals_37 : decode cX8_goals 37 = .ok (.getfield 19, 3) := by decide +kernel
theorem dX8_goals_40 : decode cX8_goals 40 = .ok (.iload_n 1, 1) := by decide +kernel
theorem dX8_goals_41 : decode cX8_goals 41 = .ok (.invokestatic 164, 3) := by decide +kernel
theorem dX8_goals_44 : decode cX8_goals 44 = .ok (.ifCond .ne 6, 3) := by decide +kernel
theorem dX8_goals_47 : decode cX8_goals 47 = .ok (.ldc 189, 2) := by decide +kernel
theorem dX8_goals_49 : decode cX8_goals 49 = .ok (.ireturn, 1) := by decide +kernel
theorem dX8_goals_50 : decode cX8_goals 50 = .ok (.aload_n 0, 1) := by decide +kernel
theorem dX8_goals_51 : decode cX8_goals 51 = .ok (.iload_n 2, 1) := by decide +kernel
theorem dX8_goals_52 : decode cX8_goals 52 = .ok (.iload_n 3, 1) := by decide +kernel
theorem dX8_goals_53 : decode cX8_goals 53 = .ok (.iload 4, 2) := by decide +kernel
theorem dX8_goals_55 : decode cX8_goals 55 = .ok (.invokevirtual 242, 3) := by decide +kernel
theorem dX8_goals_58 : decode cX8_goals 58 = .ok (.istore 5, 2) := by decide +kernel
theorem dX8_goals_60 : decode cX8_goals 60 = .ok (.iload 5, 2) := by decide +kernel
theorem dX8_goals_62 : decode cX8_goals 62 = .ok (.ifCond .eq 6, 3) := by decide +kernel
theorem dX8_goals_65 : decode cX8_goals 65 = .ok (.iload 5, 2) := by decide +kernel
theorem dX8_goals_67 : decode cX8_goals 67 = .ok (.ireturn, 1) := by decide +kernel
theorem dX8_goals_68 : decode cX8_goals 68 = .ok (.iconst 0, 1) := by decide +kernel
theorem dX8_goals_69 : decode cX8_goals 69 = .ok (.istore 6, 2) := by decide +kernel
theorem dX8_goals_71 : decode cX8_goals 71 = .ok (.iconst 0, 1) := by decide +kernel
theorem dX8_goals_72 : decode cX8_goals 72 = .ok (.istore 7, 2) := by decide +kernel
theorem dX8_goals_74 : decode cX8_goals 74 = .ok (.iload 7, 2) := by decide +kernel
theorem dX8_goals_76 : decode cX8_goals 76 = .ok (.aload_n 0, 1) := by decide +kernel
theorem dX8_goals_77 : decode cX8_goals 77 = .ok (.getfield 19, 3) := by decide +kernel
theorem dX8_goals_80 : decode cX8_goals 80 = .ok (.iconst 0, 1) := by decide +kernel
theorem dX8_goals_81 : decode cX8_goals 81 = .ok (.iaload, 1) := by decide +kernel
theorem dX8_goals_82 : decode cX8_goals 82 = .ok (.if_icmp .ge 56, 3) := by decide +kernel
theorem dX8_goals_85 : decode cX8_goals 85 = .ok (.aload_n 0, 1) := by decide +kernel
theorem dX8_goals_86 : decode cX8_goals 86 = .ok (.invokevirtual 220, 3) := by decide +kernel
theorem dX8_goals_89 : decode cX8_goals 89 = .ok (.aload_n 0, 1) := by decide +kernel
theorem dX8_goals_90 : decode cX8_goals 90 = .ok (.getfield 25, 3) := by decide +kernel
theorem dX8_goals_93 : decode cX8_goals 93 = .ok (.iconst 5, 1) := by decide +kernel
theorem dX8_goals_94 : decode cX8_goals 94 = .ok (.iconst 3, 1) := by decide +kernel
theorem dX8_goals_95 : decode cX8_goals 95 = .ok (.iload_n 1, 1) := by decide +kernel
theorem dX8_goals_96 : decode cX8_goals 96 = .ok (.imul, 1) := by decide +kernel
theorem dX8_goals_97 : decode cX8_goals 97 = .ok (.iadd, 1) := by decide +kernel
theorem dX8_goals_98 : decode cX8_goals 98 = .ok (.iconst 2, 1) := by decide +kernel
theorem dX8_goals_99 : decode cX8_goals 99 = .ok (.iadd, 1) := by decide +kernel
theorem dX8_goals_100 : decode cX8_goals 100 = .ok (.iload 7, 2) := by decide +kernel
theorem dX8_goals_102 : decode cX8_goals 102 = .ok (.iastore, 1) := by decide +kernel
theorem dX8_goals_103 : decode cX8_goals 103 = .ok (.iload 6, 2) := by decide +kernel
theorem dX8_goals_105 : decode cX8_goals 105 = .ok (.aload_n 0, 1) := by decide +kernel
theorem dX8_goals_106 : decode cX8_goals 106 = .ok (.iload_n 1, 1) := by decide +kernel
theorem dX8_goals_107 : decode cX8_goals 107 = .ok (.bipush 40, 2) := by decide +kernel
theorem dX8_goals_109 : decode cX8_goals 109 = .ok (.iload_n 2, 1) := by decide +kernel
theorem dX8_goals_110 : decode cX8_goals 110 = .ok (.imul, 1) := by decide +kernel
theorem dX8_goals_111 : decode cX8_goals 111 = .ok (.iload_n 3, 1) := by decide +kernel
theorem dX8_goals_112 : decode cX8_goals 112 = .ok (.iadd, 1) := by decide +kernel
theorem dX8_goals_113 : decode cX8_goals 113 = .ok (.iload 4, 2) := by decide +kernel
theorem dX8_goals_115 : decode cX8_goals 115 = .ok (.invokevirtual 246, 3) := by decide +kernel
theorem dX8_goals_118 : decode cX8_goals 118 = .ok (.ifCond .eq 10, 3) := by decide +kernel
theorem dX8_goals_121 : decode cX8_goals 121 = .ok (.iconst 1, 1) := by decide +kernel
theorem dX8_goals_122 : decode cX8_goals 122 = .ok (.iload 7, 2) := by decide +kernel
theorem dX8_goals_124 : decode cX8_goals 124 = .ok (.ishl, 1) := by decide +kernel
theorem dX8_goals_125 : decode cX8_goals 125 = .ok (.goto 4, 3) := by decide +kernel
theorem dX8_goals_128 : decode cX8_goals 128 = .ok (.iconst 0, 1) := by decide +kernel
theorem dX8_goals_129 : decode cX8_goals 129 = .ok (.ior, 1) := by decide +kernel
theorem dX8_goals_130 : decode cX8_goals 130 = .ok (.istore 6, 2) := by decide +kernel
theorem dX8_goals_132 : decode cX8_goals 132 = .ok (.iinc 7 1, 3) := by decide +kernel
theorem dX8_goals_135 : decode cX8_goals 135 = .ok (.goto (-61), 3) := by decide +kernel
theorem dX8_goals_138 : decode cX8_goals 138 = .ok (.iload 6, 2) := by decide +kernel
theorem dX8_goals_140 : decode cX8_goals 140 = .ok (.ireturn, 1) := by decide +kernel
theorem dX8_busy_0 : decode cX8_busy 0 = .ok (.aload_n 0, 1) := by decide +kernel
theorem dX8_busy_1 : decode cX8_busy 1 = .ok (.iconst 0, 1) := by decide +kernel
theorem dX8_busy_2 : decode cX8_busy 2 = .ok (.putfield 53, 3) := by decide +kernel
theorem dX8_busy_5 : decode cX8_busy 5 = .ok (.aload_n 0, 1) := by decide +kernel
theorem dX8_busy_6 : decode cX8_busy 6 = .ok (.invokevirtual 155, 3) := by decide +kernel
theorem dX8_busy_9 : decode cX8_busy 9 = .ok (.ifCond .ne 6, 3) := by decide +kernel
theorem dX8_busy_12 : decode cX8_busy 12 = .ok (.ldc 189, 2) := by decide +kernel
theorem dX8_busy_14 : decode cX8_busy 14 = .ok (.ireturn, 1) := by decide +kernel
theorem dX8_busy_15 : decode cX8_busy 15 = .ok (.iload_n 1, 1) := by decide +kernel
theorem dX8_busy_16 : decode cX8_busy 16 = .ok (.i2l, 1) := by decide +kernel
theorem dX8_busy_17 : decode cX8_busy 17 = .ok (.lconst 1, 1) := by decide +kernel
theorem dX8_busy_18 : decode cX8_busy 18 = .ok (.ldc2_w 218, 3) := by decide +kernel
theorem dX8_busy_21 : decode cX8_busy 21 = .ok (.invokestatic 63, 3) := by decide +kernel
theorem dX8_busy_24 : decode cX8_busy 24 = .ok (.ifCond .eq 13, 3) := by decide +kernel
theorem dX8_busy_27 : decode cX8_busy 27 = .ok (.iload_n 2, 1) := by decide +kernel
theorem dX8_busy_28 : decode cX8_busy 28 = .ok (.i2l, 1) := by decide +kernel
theorem dX8_busy_29 : decode cX8_busy 29 = .ok (.lconst 0, 1) := by decide +kernel
theorem dX8_busy_30 : decode cX8_busy 30 = .ok (.lconst 1, 1) := by decide +kernel
theorem dX8_busy_31 : decode cX8_busy 31 = .ok (.invokestatic 63, 3) := by decide +kernel
theorem dX8_busy_34 : decode cX8_busy 34 = .ok (.ifCond .ne 6, 3) := by decide +kernel
theorem dX8_busy_37 : decode cX8_busy 37 = .ok (.ldc 73, 2) := by decide +kernel
theorem dX8_busy_39 : decode cX8_busy 39 = .ok (.ireturn, 1) := by decide +kernel
theorem dX8_busy_40 : decode cX8_busy 40 = .ok (.aload_n 0, 1) := by decide +kernel
theorem dX8_busy_41 : decode cX8_busy 41 = .ok (.invokevirtual 220, 3) := by decide +kernel
theorem dX8_busy_44 : decode cX8_busy 44 = .ok (.iconst 0, 1) := by decide +kernel
theorem dX8_busy_45 : decode cX8_busy 45 = .ok (.istore_n 3, 1) := by decide +kernel
theorem dX8_busy_46 : decode cX8_busy 46 = .ok (.iload_n 3, 1) := by decide +kernel
theorem dX8_busy_47 : decode cX8_busy 47 = .ok (.bipush 6, 2) := by decide +kernel
theorem dX8_busy_49 : decode cX8_busy 49 = .ok (.if_icmp .ge 16, 3) := by decide +kernel
theorem dX8_busy_52 : decode cX8_busy 52 = .ok (.aload_n 0, 1) := by decide +kernel
theorem dX8_busy_53 : decode cX8_busy 53 = .ok (.getfield 40, 3) := by decide +kernel
theorem dX8_busy_56 : decode cX8_busy 56 = .ok (.iload_n 3, 1) := by decide +kernel
theorem dX8_busy_57 : decode cX8_busy 57 = .ok (.iconst 0, 1) := by decide +kernel
theorem dX8_busy_58 : decode cX8_busy 58 = .ok (.iastore, 1) := by decide +kernel
theorem dX8_busy_59 : decode cX8_busy 59 = .ok (.iinc 3 1, 3) := by decide +kernel
theorem dX8_busy_62 : decode cX8_busy 62 = .ok (.goto (-16), 3) := by decide +kernel
theorem dX8_busy_65 : decode cX8_busy 65 = .ok (.iconst 0, 1) := by decide +kernel
theorem dX8_busy_66 : decode cX8_busy 66 = .ok (.istore_n 3, 1) := by decide +kernel
theorem dX8_busy_67 : decode cX8_busy 67 = .ok (.iload_n 3, 1) := by decide +kernel
theorem dX8_busy_68 : decode cX8_busy 68 = .ok (.iload_n 1, 1) := by decide +kernel
theorem dX8_busy_69 : decode cX8_busy 69 = .ok (.if_icmp .ge 52, 3) := by decide +kernel
theorem dX8_busy_72 : decode cX8_busy 72 = .ok (.aload_n 0, 1) := by decide +kernel
theorem dX8_busy_73 : decode cX8_busy 73 = .ok (.aload_n 0, 1) := by decide +kernel
theorem dX8_busy_74 : decode cX8_busy 74 = .ok (.getfield 25, 3) := by decide +kernel
theorem dX8_busy_77 : decode cX8_busy 77 = .ok (.invokevirtual 182, 3) := by decide +kernel
theorem dX8_busy_80 : decode cX8_busy 80 = .ok (.istore 4, 2) := by decide +kernel
theorem dX8_busy_82 : decode cX8_busy 82 = .ok (.iconst 0, 1) := by decide +kernel
theorem dX8_busy_83 : decode cX8_busy 83 = .ok (.istore 5, 2) := by decide +kernel
theorem dX8_busy_85 : decode cX8_busy 85 = .ok (.iload 5, 2) := by decide +kernel
theorem dX8_busy_87 : decode cX8_busy 87 = .ok (.bipush 6, 2) := by decide +kernel
theorem dX8_busy_89 : decode cX8_busy 89 = .ok (.if_icmp .ge 26, 3) := by decide +kernel
theorem dX8_busy_92 : decode cX8_busy 92 = .ok (.aload_n 0, 1) := by decide +kernel
theorem dX8_busy_93 : decode cX8_busy 93 = .ok (.getfield 40, 3) := by decide +kernel
theorem dX8_busy_96 : decode cX8_busy 96 = .ok (.iload 5, 2) := by decide +kernel
theorem dX8_busy_98 : decode cX8_busy 98 = .ok (.dup2, 1) := by decide +kernel
theorem dX8_busy_99 : decode cX8_busy 99 = .ok (.iaload, 1) := by decide +kernel
theorem dX8_busy_100 : decode cX8_busy 100 = .ok (.aload_n 0, 1) := by decide +kernel
theorem dX8_busy_101 : decode cX8_busy 101 = .ok (.getfield 37, 3) := by decide +kernel
theorem dX8_busy_104 : decode cX8_busy 104 = .ok (.iload 5, 2) := by decide +kernel
theorem dX8_busy_106 : decode cX8_busy 106 = .ok (.iaload, 1) := by decide +kernel
theorem dX8_busy_107 : decode cX8_busy 107 = .ok (.iadd, 1) := by decide +kernel
theorem dX8_busy_108 : decode cX8_busy 108 = .ok (.iastore, 1) := by decide +kernel
theorem dX8_busy_109 : decode cX8_busy 109 = .ok (.iinc 5 1, 3) := by decide +kernel
theorem dX8_busy_112 : decode cX8_busy 112 = .ok (.goto (-27), 3) := by decide +kernel
theorem dX8_busy_115 : decode cX8_busy 115 = .ok (.iinc 3 1, 3) := by decide +kernel
theorem dX8_busy_118 : decode cX8_busy 118 = .ok (.goto (-51), 3) := by decide +kernel
theorem dX8_busy_121 : decode cX8_busy 121 = .ok (.iconst 0, 1) := by decide +kernel
theorem dX8_busy_122 : decode cX8_busy 122 = .ok (.istore_n 3, 1) := by decide +kernel
theorem dX8_busy_123 : decode cX8_busy 123 = .ok (.iconst 1, 1) := by decide +kernel
theorem dX8_busy_124 : decode cX8_busy 124 = .ok (.istore 4, 2) := by decide +kernel
theorem dX8_busy_126 : decode cX8_busy 126 = .ok (.iload 4, 2) := by decide +kernel
theorem dX8_busy_128 : decode cX8_busy 128 = .ok (.bipush 6, 2) := by decide +kernel
theorem dX8_busy_130 : decode cX8_busy 130 = .ok (.if_icmp .ge 32, 3) := by decide +kernel
theorem dX8_busy_133 : decode cX8_busy 133 = .ok (.aload_n 0, 1) := by decide +kernel
theorem dX8_busy_134 : decode cX8_busy 134 = .ok (.getfield 40, 3) := by decide +kernel
theorem dX8_busy_137 : decode cX8_busy 137 = .ok (.iload 4, 2) := by decide +kernel
theorem dX8_busy_139 : decode cX8_busy 139 = .ok (.iaload, 1) := by decide +kernel
theorem dX8_busy_140 : decode cX8_busy 140 = .ok (.aload_n 0, 1) := by decide +kernel
theorem dX8_busy_141 : decode cX8_busy 141 = .ok (.getfield 40, 3) := by decide +kernel
theorem dX8_busy_144 : decode cX8_busy 144 = .ok (.iload_n 3, 1) := by decide +kernel
theorem dX8_busy_145 : decode cX8_busy 145 = .ok (.iaload, 1) := by decide +kernel
theorem dX8_busy_146 : decode cX8_busy 146 = .ok (.if_icmp .le 8, 3) := by decide +kernel
theorem dX8_busy_149 : decode cX8_busy 149 = .ok (.iload 4, 2) := by decide +kernel
theorem dX8_busy_151 : decode cX8_busy 151 = .ok (.goto 4, 3) := by decide +kernel
theorem dX8_busy_154 : decode cX8_busy 154 = .ok (.iload_n 3, 1) := by decide +kernel
theorem dX8_busy_155 : decode cX8_busy 155 = .ok (.istore_n 3, 1) := by decide +kernel
theorem dX8_busy_156 : decode cX8_busy 156 = .ok (.iinc 4 1, 3) := by decide +kernel
theorem dX8_busy_159 : decode cX8_busy 159 = .ok (.goto (-33), 3) := by decide +kernel
theorem dX8_busy_162 : decode cX8_busy 162 = .ok (.iload_n 2, 1) := by decide +kernel
theorem dX8_busy_163 : decode cX8_busy 163 = .ok (.ifCond .ne 7, 3) := by decide +kernel
theorem dX8_busy_166 : decode cX8_busy 166 = .ok (.iload_n 3, 1) := by decide +kernel
theorem dX8_busy_167 : decode cX8_busy 167 = .ok (.goto 9, 3) := by decide +kernel
theorem dX8_busy_170 : decode cX8_busy 170 = .ok (.aload_n 0, 1) := by decide +kernel
theorem dX8_busy_171 : decode cX8_busy 171 = .ok (.getfield 40, 3) := by decide +kernel
theorem dX8_busy_174 : decode cX8_busy 174 = .ok (.iload_n 3, 1) := by decide +kernel
theorem dX8_busy_175 : decode cX8_busy 175 = .ok (.iaload, 1) := by decide +kernel
theorem dX8_busy_176 : decode cX8_busy 176 = .ok (.ireturn, 1) := by decide +kernel
theorem dX8_sick_0 : decode cX8_sick 0 = .ok (.aload_n 0, 1) := by decide +kernel
theorem dX8_sick_1 : decode cX8_sick 1 = .ok (.iconst 0, 1) := by decide +kernel
theorem dX8_sick_2 : decode cX8_sick 2 = .ok (.putfield 53, 3) := by decide +kernel
theorem dX8_sick_5 : decode cX8_sick 5 = .ok (.aload_n 0, 1) := by decide +kernel
theorem dX8_sick_6 : decode cX8_sick 6 = .ok (.iload_n 1, 1) := by decide +kernel
theorem dX8_sick_7 : decode cX8_sick 7 = .ok (.invokevirtual 198, 3) := by decide +kernel
theorem dX8_sick_10 : decode cX8_sick 10 = .ok (.ifCond .eq 38, 3) := by decide +kernel
theorem dX8_sick_13 : decode cX8_sick 13 = .ok (.iload_n 2, 1) := by decide +kernel
theorem dX8_sick_14 : decode cX8_sick 14 = .ok (.i2l, 1) := by decide +kernel
theorem dX8_sick_15 : decode cX8_sick 15 = .ok (.lconst 0, 1) := by decide +kernel
theorem dX8_sick_16 : decode cX8_sick 16 = .ok (.ldc2_w 218, 3) := by decide +kernel
theorem dX8_sick_19 : decode cX8_sick 19 = .ok (.invokestatic 63, 3) := by decide +kernel
theorem dX8_sick_22 : decode cX8_sick 22 = .ok (.ifCond .eq 26, 3) := by decide +kernel
theorem dX8_sick_25 : decode cX8_sick 25 = .ok (.iload_n 3, 1) := by decide +kernel
theorem dX8_sick_26 : decode cX8_sick 26 = .ok (.i2l, 1) := by decide +kernel
theorem dX8_sick_27 : decode cX8_sick 27 = .ok (.lconst 0, 1) := by decide +kernel
theorem dX8_sick_28 : decode cX8_sick 28 = .ok (.ldc2_w 250, 3) := by decide +kernel
theorem dX8_sick_31 : decode cX8_sick 31 = .ok (.invokestatic 63, 3) := by decide +kernel
theorem dX8_sick_34 : decode cX8_sick 34 = .ok (.ifCond .eq 14, 3) := by decide +kernel
theorem dX8_sick_37 : decode cX8_sick 37 = .ok (.iload 4, 2) := by decide +kernel
theorem dX8_sick_39 : decode cX8_sick 39 = .ok (.i2l, 1) := by decide +kernel
theorem dX8_sick_40 : decode cX8_sick 40 = .ok (.lconst 0, 1) := by decide +kernel
theorem dX8_sick_41 : decode cX8_sick 41 = .ok (.lconst 1, 1) := by decide +kernel
theorem dX8_sick_42 : decode cX8_sick 42 = .ok (.invokestatic 63, 3) := by decide +kernel
theorem dX8_sick_45 : decode cX8_sick 45 = .ok (.ifCond .ne 7, 3) := by decide +kernel
theorem dX8_sick_48 : decode cX8_sick 48 = .ok (.ldc2_w 252, 3) := by decide +kernel
theorem dX8_sick_51 : decode cX8_sick 51 = .ok (.lreturn, 1) := by decide +kernel
theorem dX8_sick_52 : decode cX8_sick 52 = .ok (.aload_n 0, 1) := by decide +kernel
theorem dX8_sick_53 : decode cX8_sick 53 = .ok (.getfield 19, 3) := by decide +kernel
theorem dX8_sick_56 : decode cX8_sick 56 = .ok (.iload_n 1, 1) := by decide +kernel
theorem dX8_sick_57 : decode cX8_sick 57 = .ok (.invokestatic 164, 3) := by decide +kernel
theorem dX8_sick_60 : decode cX8_sick 60 = .ok (.ifCond .ne 7, 3) := by decide +kernel
theorem dX8_sick_63 : decode cX8_sick 63 = .ok (.ldc2_w 254, 3) := by decide +kernel
theorem dX8_sick_66 : decode cX8_sick 66 = .ok (.lreturn, 1) := by decide +kernel
theorem dX8_sick_67 : decode cX8_sick 67 = .ok (.aload_n 0, 1) := by decide +kernel
theorem dX8_sick_68 : decode cX8_sick 68 = .ok (.invokevirtual 233, 3) := by decide +kernel
theorem dX8_sick_71 : decode cX8_sick 71 = .ok (.istore 5, 2) := by decide +kernel
theorem dX8_sick_73 : decode cX8_sick 73 = .ok (.lconst 0, 1) := by decide +kernel
theorem dX8_sick_74 : decode cX8_sick 74 = .ok (.lstore 6, 2) := by decide +kernel
theorem dX8_sick_76 : decode cX8_sick 76 = .ok (.lconst 0, 1) := by decide +kernel
theorem dX8_sick_77 : decode cX8_sick 77 = .ok (.lstore 8, 2) := by decide +kernel
theorem dX8_sick_79 : decode cX8_sick 79 = .ok (.iconst 0, 1) := by decide +kernel
theorem dX8_sick_80 : decode cX8_sick 80 = .ok (.istore 10, 2) := by decide +kernel
theorem dX8_sick_82 : decode cX8_sick 82 = .ok (.iload 10, 2) := by decide +kernel
theorem dX8_sick_84 : decode cX8_sick 84 = .ok (.iload 5, 2) := by decide +kernel
theorem dX8_sick_86 : decode cX8_sick 86 = .ok (.if_icmp .gt 126, 3) := by decide +kernel
theorem dX8_sick_89 : decode cX8_sick 89 = .ok (.iload 10, 2) := by decide +kernel
theorem dX8_sick_91 : decode cX8_sick 91 = .ok (.iload 5, 2) := by decide +kernel
theorem dX8_sick_93 : decode cX8_sick 93 = .ok (.iconst (-1), 1) := by decide +kernel
theorem dX8_sick_94 : decode cX8_sick 94 = .ok (.ixor, 1) := by decide +kernel
theorem dX8_sick_95 : decode cX8_sick 95 = .ok (.iand, 1) := by decide +kernel
theorem dX8_sick_96 : decode cX8_sick 96 = .ok (.ifCond .ne 110, 3) := by decide +kernel
theorem dX8_sick_99 : decode cX8_sick 99 = .ok (.lconst 1, 1) := by decide +kernel
theorem dX8_sick_100 : decode cX8_sick 100 = .ok (.lstore 11, 2) := by decide +kernel
theorem dX8_sick_102 : decode cX8_sick 102 = .ok (.iconst 0, 1) := by decide +kernel
theorem dX8_sick_103 : decode cX8_sick 103 = .ok (.istore 13, 2) := by decide +kernel
theorem dX8_sick_105 : decode cX8_sick 105 = .ok (.iload 13, 2) := by decide +kernel
theorem dX8_sick_107 : decode cX8_sick 107 = .ok (.aload_n 0, 1) := by decide +kernel
theorem dX8_sick_108 : decode cX8_sick 108 = .ok (.getfield 19, 3) := by decide +kernel
theorem dX8_sick_111 : decode cX8_sick 111 = .ok (.iconst 2, 1) := by decide +kernel
theorem dX8_sick_112 : decode cX8_sick 112 = .ok (.iaload, 1) := by decide +kernel
theorem dX8_sick_113 : decode cX8_sick 113 = .ok (.if_icmp .ge 49, 3) := by decide +kernel
theorem dX8_sick_116 : decode cX8_sick 116 = .ok (.lload 11, 2) := by decide +kernel
theorem dX8_sick_118 : decode cX8_sick 118 = .ok (.iload 5, 2) := by decide +kernel
theorem dX8_sick_120 : decode cX8_sick 120 = .ok (.iload 13, 2) := by decide +kernel
theorem dX8_sick_122 : decode cX8_sick 122 = .ok (.invokestatic 171, 3) := by decide +kernel
theorem dX8_sick_125 : decode cX8_sick 125 = .ok (.ifCond .ne 7, 3) := by decide +kernel
theorem dX8_sick_128 : decode cX8_sick 128 = .ok (.lconst 1, 1) := by decide +kernel
theorem dX8_sick_129 : decode cX8_sick 129 = .ok (.goto 24, 3) := by decide +kernel
theorem dX8_sick_132 : decode cX8_sick 132 = .ok (.iload 10, 2) := by decide +kernel
theorem dX8_sick_134 : decode cX8_sick 134 = .ok (.iload 13, 2) := by decide +kernel
theorem dX8_sick_136 : decode cX8_sick 136 = .ok (.invokestatic 171, 3) := by decide +kernel
theorem dX8_sick_139 : decode cX8_sick 139 = .ok (.ifCond .eq 8, 3) := by decide +kernel
theorem dX8_sick_142 : decode cX8_sick 142 = .ok (.iload_n 3, 1) := by decide +kernel
theorem dX8_sick_143 : decode cX8_sick 143 = .ok (.i2l, 1) := by decide +kernel
theorem dX8_sick_144 : decode cX8_sick 144 = .ok (.goto 9, 3) := by decide +kernel
theorem dX8_sick_147 : decode cX8_sick 147 = .ok (.ldc2_w 250, 3) := by decide +kernel
theorem dX8_sick_150 : decode cX8_sick 150 = .ok (.iload_n 3, 1) := by decide +kernel
theorem dX8_sick_151 : decode cX8_sick 151 = .ok (.i2l, 1) := by decide +kernel
theorem dX8_sick_152 : decode cX8_sick 152 = .ok (.lsub, 1) := by decide +kernel
theorem dX8_sick_153 : decode cX8_sick 153 = .ok (.lmul, 1) := by decide +kernel
theorem dX8_sick_154 : decode cX8_sick 154 = .ok (.lstore 11, 2) := by decide +kernel
theorem dX8_sick_156 : decode cX8_sick 156 = .ok (.iinc 13 1, 3) := by decide +kernel
theorem dX8_sick_159 : decode cX8_sick 159 = .ok (.goto (-54), 3) := by decide +kernel
theorem dX8_sick_162 : decode cX8_sick 162 = .ok (.aload_n 0, 1) := by decide +kernel
theorem dX8_sick_163 : decode cX8_sick 163 = .ok (.invokevirtual 220, 3) := by decide +kernel
theorem dX8_sick_166 : decode cX8_sick 166 = .ok (.aload_n 0, 1) := by decide +kernel
theorem dX8_sick_167 : decode cX8_sick 167 = .ok (.getfield 25, 3) := by decide +kernel
theorem dX8_sick_170 : decode cX8_sick 170 = .ok (.iconst 4, 1) := by decide +kernel
theorem dX8_sick_171 : decode cX8_sick 171 = .ok (.dup2, 1) := by decide +kernel
theorem dX8_sick_172 : decode cX8_sick 172 = .ok (.iaload, 1) := by decide +kernel
theorem dX8_sick_173 : decode cX8_sick 173 = .ok (.iload 10, 2) := by decide +kernel
theorem dX8_sick_175 : decode cX8_sick 175 = .ok (.ior, 1) := by decide +kernel
theorem dX8_sick_176 : decode cX8_sick 176 = .ok (.iastore, 1) := by decide +kernel
theorem dX8_sick_177 : decode cX8_sick 177 = .ok (.lload 8, 2) := by decide +kernel
theorem dX8_sick_179 : decode cX8_sick 179 = .ok (.lload 11, 2) := by decide +kernel
theorem dX8_sick_181 : decode cX8_sick 181 = .ok (.ladd, 1) := by decide +kernel
theorem dX8_sick_182 : decode cX8_sick 182 = .ok (.lstore 8, 2) := by decide +kernel
theorem dX8_sick_184 : decode cX8_sick 184 = .ok (.lload 6, 2) := by decide +kernel
theorem dX8_sick_186 : decode cX8_sick 186 = .ok (.aload_n 0, 1) := by decide +kernel
theorem dX8_sick_187 : decode cX8_sick 187 = .ok (.iload_n 1, 1) := by decide +kernel
theorem dX8_sick_188 : decode cX8_sick 188 = .ok (.iload_n 2, 1) := by decide +kernel
theorem dX8_sick_189 : decode cX8_sick 189 = .ok (.invokevirtual 227, 3) := by decide +kernel
theorem dX8_sick_192 : decode cX8_sick 192 = .ok (.ldc 96, 2) := by decide +kernel
theorem dX8_sick_194 : decode cX8_sick 194 = .ok (.if_icmp .eq 8, 3) := by decide +kernel
theorem dX8_sick_197 : decode cX8_sick 197 = .ok (.lload 11, 2) := by decide +kernel
theorem dX8_sick_199 : decode cX8_sick 199 = .ok (.goto 4, 3) := by decide +kernel
theorem dX8_sick_202 : decode cX8_sick 202 = .ok (.lconst 0, 1) := by decide +kernel
theorem dX8_sick_203 : decode cX8_sick 203 = .ok (.ladd, 1) := by decide +kernel
theorem dX8_sick_204 : decode cX8_sick 204 = .ok (.lstore 6, 2) := by decide +kernel
theorem dX8_sick_206 : decode cX8_sick 206 = .ok (.iinc 10 1, 3) := by decide +kernel
theorem dX8_sick_209 : decode cX8_sick 209 = .ok (.goto (-127), 3) := by decide +kernel
theorem dX8_sick_212 : decode cX8_sick 212 = .ok (.lload 6, 2) := by decide +kernel
theorem dX8_sick_214 : decode cX8_sick 214 = .ok (.lstore 10, 2) := by decide +kernel
theorem dX8_sick_216 : decode cX8_sick 216 = .ok (.lload 8, 2) := by decide +kernel
theorem dX8_sick_218 : decode cX8_sick 218 = .ok (.lstore 12, 2) := by decide +kernel
theorem dX8_sick_220 : decode cX8_sick 220 = .ok (.lload 12, 2) := by decide +kernel
theorem dX8_sick_222 : decode cX8_sick 222 = .ok (.lconst 0, 1) := by decide +kernel
theorem dX8_sick_223 : decode cX8_sick 223 = .ok (.lcmp, 1) := by decide +kernel
theorem dX8_sick_224 : decode cX8_sick 224 = .ok (.ifCond .eq 21, 3) := by decide +kernel
theorem dX8_sick_227 : decode cX8_sick 227 = .ok (.lload 10, 2) := by decide +kernel
theorem dX8_sick_229 : decode cX8_sick 229 = .ok (.lload 12, 2) := by decide +kernel
theorem dX8_sick_231 : decode cX8_sick 231 = .ok (.lrem, 1) := by decide +kernel
theorem dX8_sick_232 : decode cX8_sick 232 = .ok (.lstore 14, 2) := by decide +kernel
theorem dX8_sick_234 : decode cX8_sick 234 = .ok (.lload 12, 2) := by decide +kernel
theorem dX8_sick_236 : decode cX8_sick 236 = .ok (.lstore 10, 2) := by decide +kernel
theorem dX8_sick_238 : decode cX8_sick 238 = .ok (.lload 14, 2) := by decide +kernel
theorem dX8_sick_240 : decode cX8_sick 240 = .ok (.lstore 12, 2) := by decide +kernel
theorem dX8_sick_242 : decode cX8_sick 242 = .ok (.goto (-22), 3) := by decide +kernel
theorem dX8_sick_245 : decode cX8_sick 245 = .ok (.iload 4, 2) := by decide +kernel
theorem dX8_sick_247 : decode cX8_sick 247 = .ok (.ifCond .ne 8, 3) := by decide +kernel
theorem dX8_sick_250 : decode cX8_sick 250 = .ok (.lload 6, 2) := by decide +kernel
theorem dX8_sick_252 : decode cX8_sick 252 = .ok (.goto 5, 3) := by decide +kernel
theorem dX8_sick_255 : decode cX8_sick 255 = .ok (.lload 8, 2) := by decide +kernel
theorem dX8_sick_257 : decode cX8_sick 257 = .ok (.lload 10, 2) := by decide +kernel
theorem dX8_sick_259 : decode cX8_sick 259 = .ok (.ldiv, 1) := by decide +kernel
theorem dX8_sick_260 : decode cX8_sick 260 = .ok (.lreturn, 1) := by decide +kernel
theorem dX8_drawn_0 : decode cX8_drawn 0 = .ok (.aload_n 0, 1) := by decide +kernel
theorem dX8_drawn_1 : decode cX8_drawn 1 = .ok (.iconst 0, 1) := by decide +kernel
theorem dX8_drawn_2 : decode cX8_drawn 2 = .ok (.putfield 53, 3) := by decide +kernel
theorem dX8_drawn_5 : decode cX8_drawn 5 = .ok (.aload_n 0, 1) := by decide +kernel
theorem dX8_drawn_6 : decode cX8_drawn 6 = .ok (.invokevirtual 155, 3) := by decide +kernel
theorem dX8_drawn_9 : decode cX8_drawn 9 = .ok (.ifCond .ne 6, 3) := by decide +kernel
theorem dX8_drawn_12 : decode cX8_drawn 12 = .ok (.ldc 189, 2) := by decide +kernel
theorem dX8_drawn_14 : decode cX8_drawn 14 = .ok (.ireturn, 1) := by decide +kernel
theorem dX8_drawn_15 : decode cX8_drawn 15 = .ok (.iload_n 1, 1) := by decide +kernel
theorem dX8_drawn_16 : decode cX8_drawn 16 = .ok (.i2l, 1) := by decide +kernel
theorem dX8_drawn_17 : decode cX8_drawn 17 = .ok (.lconst 0, 1) := by decide +kernel
theorem dX8_drawn_18 : decode cX8_drawn 18 = .ok (.ldc2_w 218, 3) := by decide +kernel
theorem dX8_drawn_21 : decode cX8_drawn 21 = .ok (.invokestatic 63, 3) := by decide +kernel
theorem dX8_drawn_24 : decode cX8_drawn 24 = .ok (.ifCond .eq 25, 3) := by decide +kernel
theorem dX8_drawn_27 : decode cX8_drawn 27 = .ok (.iload_n 2, 1) := by decide +kernel
theorem dX8_drawn_28 : decode cX8_drawn 28 = .ok (.i2l, 1) := by decide +kernel
theorem dX8_drawn_29 : decode cX8_drawn 29 = .ok (.lconst 1, 1) := by decide +kernel
theorem dX8_drawn_30 : decode cX8_drawn 30 = .ok (.ldc2_w 256, 3) := by decide +kernel
theorem dX8_drawn_33 : decode cX8_drawn 33 = .ok (.invokestatic 63, 3) := by decide +kernel
theorem dX8_drawn_36 : decode cX8_drawn 36 = .ok (.ifCond .eq 13, 3) := by decide +kernel
theorem dX8_drawn_39 : decode cX8_drawn 39 = .ok (.iload_n 3, 1) := by decide +kernel
theorem dX8_drawn_40 : decode cX8_drawn 40 = .ok (.i2l, 1) := by decide +kernel
theorem dX8_drawn_41 : decode cX8_drawn 41 = .ok (.lconst 0, 1) := by decide +kernel
theorem dX8_drawn_42 : decode cX8_drawn 42 = .ok (.lconst 1, 1) := by decide +kernel
theorem dX8_drawn_43 : decode cX8_drawn 43 = .ok (.invokestatic 63, 3) := by decide +kernel
theorem dX8_drawn_46 : decode cX8_drawn 46 = .ok (.ifCond .ne 6, 3) := by decide +kernel
theorem dX8_drawn_49 : decode cX8_drawn 49 = .ok (.ldc 73, 2) := by decide +kernel
theorem dX8_drawn_51 : decode cX8_drawn 51 = .ok (.ireturn, 1) := by decide +kernel
theorem dX8_drawn_52 : decode cX8_drawn 52 = .ok (.aload_n 0, 1) := by decide +kernel
theorem dX8_drawn_53 : decode cX8_drawn 53 = .ok (.invokevirtual 220, 3) := by decide +kernel
theorem dX8_drawn_56 : decode cX8_drawn 56 = .ok (.iload_n 2, 1) := by decide +kernel
theorem dX8_drawn_57 : decode cX8_drawn 57 = .ok (.i2l, 1) := by decide +kernel
theorem dX8_drawn_58 : decode cX8_drawn 58 = .ok (.lstore 4, 2) := by decide +kernel
theorem dX8_drawn_60 : decode cX8_drawn 60 = .ok (.iconst 0, 1) := by decide +kernel
theorem dX8_drawn_61 : decode cX8_drawn 61 = .ok (.istore 6, 2) := by decide +kernel
theorem dX8_drawn_63 : decode cX8_drawn 63 = .ok (.iconst 0, 1) := by decide +kernel
theorem dX8_drawn_64 : decode cX8_drawn 64 = .ok (.istore 7, 2) := by decide +kernel
theorem dX8_drawn_66 : decode cX8_drawn 66 = .ok (.iload 7, 2) := by decide +kernel
theorem dX8_drawn_68 : decode cX8_drawn 68 = .ok (.iload_n 1, 1) := by decide +kernel
theorem dX8_drawn_69 : decode cX8_drawn 69 = .ok (.if_icmp .ge 85, 3) := by decide +kernel
theorem dX8_drawn_72 : decode cX8_drawn 72 = .ok (.lload 4, 2) := by decide +kernel
theorem dX8_drawn_74 : decode cX8_drawn 74 = .ok (.ldc2_w 258, 3) := by decide +kernel
theorem dX8_drawn_77 : decode cX8_drawn 77 = .ok (.lmul, 1) := by decide +kernel
theorem dX8_drawn_78 : decode cX8_drawn 78 = .ok (.ldc2_w 260, 3) := by decide +kernel
theorem dX8_drawn_81 : decode cX8_drawn 81 = .ok (.lrem, 1) := by decide +kernel
theorem dX8_drawn_82 : decode cX8_drawn 82 = .ok (.lstore 4, 2) := by decide +kernel
theorem dX8_drawn_84 : decode cX8_drawn 84 = .ok (.lload 4, 2) := by decide +kernel
theorem dX8_drawn_86 : decode cX8_drawn 86 = .ok (.ldc2_w 216, 3) := by decide +kernel
theorem dX8_drawn_89 : decode cX8_drawn 89 = .ok (.lrem, 1) := by decide +kernel
theorem dX8_drawn_90 : decode cX8_drawn 90 = .ok (.lconst 0, 1) := by decide +kernel
theorem dX8_drawn_91 : decode cX8_drawn 91 = .ok (.lcmp, 1) := by decide +kernel
theorem dX8_drawn_92 : decode cX8_drawn 92 = .ok (.ifCond .ne 43, 3) := by decide +kernel
theorem dX8_drawn_95 : decode cX8_drawn 95 = .ok (.lload 4, 2) := by decide +kernel
theorem dX8_drawn_97 : decode cX8_drawn 97 = .ok (.aload_n 0, 1) := by decide +kernel
theorem dX8_drawn_98 : decode cX8_drawn 98 = .ok (.getfield 25, 3) := by decide +kernel
theorem dX8_drawn_101 : decode cX8_drawn 101 = .ok (.iconst 0, 1) := by decide +kernel
theorem dX8_drawn_102 : decode cX8_drawn 102 = .ok (.iaload, 1) := by decide +kernel
theorem dX8_drawn_103 : decode cX8_drawn 103 = .ok (.i2l, 1) := by decide +kernel
theorem dX8_drawn_104 : decode cX8_drawn 104 = .ok (.lrem, 1) := by decide +kernel
theorem dX8_drawn_105 : decode cX8_drawn 105 = .ok (.l2i, 1) := by decide +kernel
theorem dX8_drawn_106 : decode cX8_drawn 106 = .ok (.istore 8, 2) := by decide +kernel
theorem dX8_drawn_108 : decode cX8_drawn 108 = .ok (.aload_n 0, 1) := by decide +kernel
theorem dX8_drawn_109 : decode cX8_drawn 109 = .ok (.getfield 25, 3) := by decide +kernel
theorem dX8_drawn_112 : decode cX8_drawn 112 = .ok (.lload 4, 2) := by decide +kernel
theorem dX8_drawn_114 : decode cX8_drawn 114 = .ok (.ldc2_w 262, 3) := by decide +kernel
theorem dX8_drawn_117 : decode cX8_drawn 117 = .ok (.lrem, 1) := by decide +kernel
theorem dX8_drawn_118 : decode cX8_drawn 118 = .ok (.l2i, 1) := by decide +kernel
theorem dX8_drawn_119 : decode cX8_drawn 119 = .ok (.iload 8, 2) := by decide +kernel
theorem dX8_drawn_121 : decode cX8_drawn 121 = .ok (.aload_n 0, 1) := by decide +kernel
theorem dX8_drawn_122 : decode cX8_drawn 122 = .ok (.getfield 25, 3) := by decide +kernel
theorem dX8_drawn_125 : decode cX8_drawn 125 = .ok (.iconst 0, 1) := by decide +kernel
theorem dX8_drawn_126 : decode cX8_drawn 126 = .ok (.iaload, 1) := by decide +kernel
theorem dX8_drawn_127 : decode cX8_drawn 127 = .ok (.iconst 1, 1) := by decide +kernel
theorem dX8_drawn_128 : decode cX8_drawn 128 = .ok (.isub, 1) := by decide +kernel
theorem dX8_drawn_129 : decode cX8_drawn 129 = .ok (.iload 8, 2) := by decide +kernel
theorem dX8_drawn_131 : decode cX8_drawn 131 = .ok (.isub, 1) := by decide +kernel
theorem dX8_drawn_132 : decode cX8_drawn 132 = .ok (.invokestatic 204, 3) := by decide +kernel
theorem dX8_drawn_135 : decode cX8_drawn 135 = .ok (.iload 6, 2) := by decide +kernel
theorem dX8_drawn_137 : decode cX8_drawn 137 = .ok (.aload_n 0, 1) := by decide +kernel
theorem dX8_drawn_138 : decode cX8_drawn 138 = .ok (.aload_n 0, 1) := by decide +kernel
theorem dX8_drawn_139 : decode cX8_drawn 139 = .ok (.getfield 25, 3) := by decide +kernel
theorem dX8_drawn_142 : decode cX8_drawn 142 = .ok (.invokevirtual 182, 3) := by decide +kernel
theorem dX8_drawn_145 : decode cX8_drawn 145 = .ok (.iadd, 1) := by decide +kernel
theorem dX8_drawn_146 : decode cX8_drawn 146 = .ok (.istore 6, 2) := by decide +kernel
theorem dX8_drawn_148 : decode cX8_drawn 148 = .ok (.iinc 7 1, 3) := by decide +kernel
theorem dX8_drawn_151 : decode cX8_drawn 151 = .ok (.goto (-85), 3) := by decide +kernel
theorem dX8_drawn_154 : decode cX8_drawn 154 = .ok (.iload_n 3, 1) := by decide +kernel
theorem dX8_drawn_155 : decode cX8_drawn 155 = .ok (.ifCond .ne 16, 3) := by decide +kernel
theorem dX8_drawn_158 : decode cX8_drawn 158 = .ok (.aload_n 0, 1) := by decide +kernel
theorem dX8_drawn_159 : decode cX8_drawn 159 = .ok (.getfield 25, 3) := by decide +kernel
theorem dX8_drawn_162 : decode cX8_drawn 162 = .ok (.invokestatic 195, 3) := by decide +kernel
theorem dX8_drawn_165 : decode cX8_drawn 165 = .ok (.invokestatic 237, 3) := by decide +kernel
theorem dX8_drawn_168 : decode cX8_drawn 168 = .ok (.goto 5, 3) := by decide +kernel
theorem dX8_drawn_171 : decode cX8_drawn 171 = .ok (.iload 6, 2) := by decide +kernel
theorem dX8_drawn_173 : decode cX8_drawn 173 = .ok (.ireturn, 1) := by decide +kernel
theorem dX8_image_0 : decode cX8_image 0 = .ok (.aload_n 0, 1) := by decide +kernel
theorem dX8_image_1 : decode cX8_image 1 = .ok (.iconst 0, 1) := by decide +kernel
theorem dX8_image_2 : decode cX8_image 2 = .ok (.putfield 53, 3) := by decide +kernel
theorem dX8_image_5 : decode cX8_image 5 = .ok (.iload_n 1, 1) := by decide +kernel
theorem dX8_image_6 : decode cX8_image 6 = .ok (.i2l, 1) := by decide +kernel
theorem dX8_image_7 : decode cX8_image 7 = .ok (.lconst 0, 1) := by decide +kernel
theorem dX8_image_8 : decode cX8_image 8 = .ok (.lconst 1, 1) := by decide +kernel
theorem dX8_image_9 : decode cX8_image 9 = .ok (.invokestatic 63, 3) := by decide +kernel
theorem dX8_image_12 : decode cX8_image 12 = .ok (.ifCond .ne 6, 3) := by decide +kernel
theorem dX8_image_15 : decode cX8_image 15 = .ok (.ldc 73, 2) := by decide +kernel
theorem dX8_image_17 : decode cX8_image 17 = .ok (.ireturn, 1) := by decide +kernel
theorem dX8_image_18 : decode cX8_image 18 = .ok (.aload_n 0, 1) := by decide +kernel
theorem dX8_image_19 : decode cX8_image 19 = .ok (.invokevirtual 155, 3) := by decide +kernel
theorem dX8_image_22 : decode cX8_image 22 = .ok (.ifCond .ne 6, 3) := by decide +kernel
theorem dX8_image_25 : decode cX8_image 25 = .ok (.ldc 189, 2) := by decide +kernel
theorem dX8_image_27 : decode cX8_image 27 = .ok (.ireturn, 1) := by decide +kernel
theorem dX8_image_28 : decode cX8_image 28 = .ok (.iconst 0, 1) := by decide +kernel
theorem dX8_image_29 : decode cX8_image 29 = .ok (.istore_n 2, 1) := by decide +kernel
theorem dX8_image_30 : decode cX8_image 30 = .ok (.iload_n 2, 1) := by decide +kernel
theorem dX8_image_31 : decode cX8_image 31 = .ok (.bipush 41, 2) := by decide +kernel
theorem dX8_image_33 : decode cX8_image 33 = .ok (.if_icmp .ge 26, 3) := by decide +kernel
theorem dX8_image_36 : decode cX8_image 36 = .ok (.aload_n 0, 1) := by decide +kernel
theorem dX8_image_37 : decode cX8_image 37 = .ok (.getfield 47, 3) := by decide +kernel
theorem dX8_image_40 : decode cX8_image 40 = .ok (.bipush 41, 2) := by decide +kernel
theorem dX8_image_42 : decode cX8_image 42 = .ok (.iload_n 1, 1) := by decide +kernel
theorem dX8_image_43 : decode cX8_image 43 = .ok (.imul, 1) := by decide +kernel
theorem dX8_image_44 : decode cX8_image 44 = .ok (.iload_n 2, 1) := by decide +kernel
theorem dX8_image_45 : decode cX8_image 45 = .ok (.iadd, 1) := by decide +kernel
theorem dX8_image_46 : decode cX8_image 46 = .ok (.aload_n 0, 1) := by decide +kernel
theorem dX8_image_47 : decode cX8_image 47 = .ok (.getfield 19, 3) := by decide +kernel
theorem dX8_image_50 : decode cX8_image 50 = .ok (.iload_n 2, 1) := by decide +kernel
theorem dX8_image_51 : decode cX8_image 51 = .ok (.iaload, 1) := by decide +kernel
theorem dX8_image_52 : decode cX8_image 52 = .ok (.iastore, 1) := by decide +kernel
theorem dX8_image_53 : decode cX8_image 53 = .ok (.iinc 2 1, 3) := by decide +kernel
theorem dX8_image_56 : decode cX8_image 56 = .ok (.goto (-26), 3) := by decide +kernel
theorem dX8_image_59 : decode cX8_image 59 = .ok (.aload_n 0, 1) := by decide +kernel
theorem dX8_image_60 : decode cX8_image 60 = .ok (.getfield 43, 3) := by decide +kernel
theorem dX8_image_63 : decode cX8_image 63 = .ok (.iload_n 1, 1) := by decide +kernel
theorem dX8_image_64 : decode cX8_image 64 = .ok (.iconst 1, 1) := by decide +kernel
theorem dX8_image_65 : decode cX8_image 65 = .ok (.bastore, 1) := by decide +kernel
theorem dX8_image_66 : decode cX8_image 66 = .ok (.iconst 1, 1) := by decide +kernel
theorem dX8_image_67 : decode cX8_image 67 = .ok (.ireturn, 1) := by decide +kernel
theorem dX8_restore_0 : decode cX8_restore 0 = .ok (.aload_n 0, 1) := by decide +kernel
theorem dX8_restore_1 : decode cX8_restore 1 = .ok (.iconst 0, 1) := by decide +kernel
theorem dX8_restore_2 : decode cX8_restore 2 = .ok (.putfield 53, 3) := by decide +kernel
theorem dX8_restore_5 : decode cX8_restore 5 = .ok (.iload_n 1, 1) := by decide +kernel
theorem dX8_restore_6 : decode cX8_restore 6 = .ok (.i2l, 1) := by decide +kernel
theorem dX8_restore_7 : decode cX8_restore 7 = .ok (.lconst 0, 1) := by decide +kernel
theorem dX8_restore_8 : decode cX8_restore 8 = .ok (.lconst 1, 1) := by decide +kernel
theorem dX8_restore_9 : decode cX8_restore 9 = .ok (.invokestatic 63, 3) := by decide +kernel
theorem dX8_restore_12 : decode cX8_restore 12 = .ok (.ifCond .ne 6, 3) := by decide +kernel
theorem dX8_restore_15 : decode cX8_restore 15 = .ok (.ldc 73, 2) := by decide +kernel
theorem dX8_restore_17 : decode cX8_restore 17 = .ok (.ireturn, 1) := by decide +kernel
theorem dX8_restore_18 : decode cX8_restore 18 = .ok (.aload_n 0, 1) := by decide +kernel
theorem dX8_restore_19 : decode cX8_restore 19 = .ok (.getfield 43, 3) := by decide +kernel
theorem dX8_restore_22 : decode cX8_restore 22 = .ok (.iload_n 1, 1) := by decide +kernel
theorem dX8_restore_23 : decode cX8_restore 23 = .ok (.baload, 1) := by decide +kernel
theorem dX8_restore_24 : decode cX8_restore 24 = .ok (.ifCond .ne 6, 3) := by decide +kernel
theorem dX8_restore_27 : decode cX8_restore 27 = .ok (.ldc 189, 2) := by decide +kernel
theorem dX8_restore_29 : decode cX8_restore 29 = .ok (.ireturn, 1) := by decide +kernel
theorem dX8_restore_30 : decode cX8_restore 30 = .ok (.iconst 0, 1) := by decide +kernel
theorem dX8_restore_31 : decode cX8_restore 31 = .ok (.istore_n 2, 1) := by decide +kernel
theorem dX8_restore_32 : decode cX8_restore 32 = .ok (.iload_n 2, 1) := by decide +kernel
theorem dX8_restore_33 : decode cX8_restore 33 = .ok (.bipush 41, 2) := by decide +kernel
theorem dX8_restore_35 : decode cX8_restore 35 = .ok (.if_icmp .ge 26, 3) := by decide +kernel
theorem dX8_restore_38 : decode cX8_restore 38 = .ok (.aload_n 0, 1) := by decide +kernel
theorem dX8_restore_39 : decode cX8_restore 39 = .ok (.getfield 19, 3) := by decide +kernel
theorem dX8_restore_42 : decode cX8_restore 42 = .ok (.iload_n 2, 1) := by decide +kernel
theorem dX8_restore_43 : decode cX8_restore 43 = .ok (.aload_n 0, 1) := by decide +kernel
theorem dX8_restore_44 : decode cX8_restore 44 = .ok (.getfield 47, 3) := by decide +kernel
theorem dX8_restore_47 : decode cX8_restore 47 = .ok (.bipush 41, 2) := by decide +kernel
theorem dX8_restore_49 : decode cX8_restore 49 = .ok (.iload_n 1, 1) := by decide +kernel
theorem dX8_restore_50 : decode cX8_restore 50 = .ok (.imul, 1) := by decide +kernel
theorem dX8_restore_51 : decode cX8_restore 51 = .ok (.iload_n 2, 1) := by decide +kernel
theorem dX8_restore_52 : decode cX8_restore 52 = .ok (.iadd, 1) := by decide +kernel
theorem dX8_restore_53 : decode cX8_restore 53 = .ok (.iaload, 1) := by decide +kernel
theorem dX8_restore_54 : decode cX8_restore 54 = .ok (.iastore, 1) := by decide +kernel
theorem dX8_restore_55 : decode cX8_restore 55 = .ok (.iinc 2 1, 3) := by decide +kernel
theorem dX8_restore_58 : decode cX8_restore 58 = .ok (.goto (-26), 3) := by decide +kernel
theorem dX8_restore_61 : decode cX8_restore 61 = .ok (.aload_n 0, 1) := by decide +kernel
theorem dX8_restore_62 : decode cX8_restore 62 = .ok (.iconst 0, 1) := by decide +kernel
theorem dX8_restore_63 : decode cX8_restore 63 = .ok (.putfield 152, 3) := by decide +kernel
theorem dX8_restore_66 : decode cX8_restore 66 = .ok (.iconst 1, 1) := by decide +kernel
theorem dX8_restore_67 : decode cX8_restore 67 = .ok (.ireturn, 1) := by decide +kernel
theorem dX8_isOf_0 : decode cX8_isOf 0 = .ok (.iload_n 1, 1) := by decide +kernel
theorem dX8_isOf_1 : decode cX8_isOf 1 = .ok (.ifCond .eq 28, 3) := by decide +kernel
theorem dX8_isOf_4 : decode cX8_isOf 4 = .ok (.iload_n 0, 1) := by decide +kernel
theorem dX8_isOf_5 : decode cX8_isOf 5 = .ok (.iload_n 1, 1) := by decide +kernel
theorem dX8_isOf_6 : decode cX8_isOf 6 = .ok (.if_icmp .eq 23, 3) := by decide +kernel
theorem dX8_isOf_9 : decode cX8_isOf 9 = .ok (.iload_n 1, 1) := by decide +kernel
theorem dX8_isOf_10 : decode cX8_isOf 10 = .ok (.iconst 1, 1) := by decide +kernel
theorem dX8_isOf_11 : decode cX8_isOf 11 = .ok (.if_icmp .ne 8, 3) := by decide +kernel
theorem dX8_isOf_14 : decode cX8_isOf 14 = .ok (.iload_n 0, 1) := by decide +kernel
theorem dX8_isOf_15 : decode cX8_isOf 15 = .ok (.iconst 4, 1) := by decide +kernel
theorem dX8_isOf_16 : decode cX8_isOf 16 = .ok (.if_icmp .lt 13, 3) := by decide +kernel
theorem dX8_isOf_19 : decode cX8_isOf 19 = .ok (.iload_n 1, 1) := by decide +kernel
theorem dX8_isOf_20 : decode cX8_isOf 20 = .ok (.iconst 4, 1) := by decide +kernel
theorem dX8_isOf_21 : decode cX8_isOf 21 = .ok (.if_icmp .ne 12, 3) := by decide +kernel
theorem dX8_isOf_24 : decode cX8_isOf 24 = .ok (.iload_n 0, 1) := by decide +kernel
theorem dX8_isOf_25 : decode cX8_isOf 25 = .ok (.iconst 5, 1) := by decide +kernel
theorem dX8_isOf_26 : decode cX8_isOf 26 = .ok (.if_icmp .ne 7, 3) := by decide +kernel
theorem dX8_isOf_29 : decode cX8_isOf 29 = .ok (.iconst 1, 1) := by decide +kernel
theorem dX8_isOf_30 : decode cX8_isOf 30 = .ok (.goto 4, 3) := by decide +kernel
theorem dX8_isOf_33 : decode cX8_isOf 33 = .ok (.iconst 0, 1) := by decide +kernel
theorem dX8_isOf_34 : decode cX8_isOf 34 = .ok (.ireturn, 1) := by decide +kernel
theorem dX8_kind_0 : decode cX8_kind 0 = .ok (.aload_n 0, 1) := by decide +kernel
theorem dX8_kind_1 : decode cX8_kind 1 = .ok (.iconst 0, 1) := by decide +kernel
theorem dX8_kind_2 : decode cX8_kind 2 = .ok (.putfield 53, 3) := by decide +kernel
theorem dX8_kind_5 : decode cX8_kind 5 = .ok (.aload_n 0, 1) := by decide +kernel
theorem dX8_kind_6 : decode cX8_kind 6 = .ok (.iload_n 1, 1) := by decide +kernel
theorem dX8_kind_7 : decode cX8_kind 7 = .ok (.invokevirtual 211, 3) := by decide +kernel
theorem dX8_kind_10 : decode cX8_kind 10 = .ok (.ifCond .eq 15, 3) := by decide +kernel
theorem dX8_kind_13 : decode cX8_kind 13 = .ok (.aload_n 0, 1) := by decide +kernel
theorem dX8_kind_14 : decode cX8_kind 14 = .ok (.getfield 19, 3) := by decide +kernel
theorem dX8_kind_17 : decode cX8_kind 17 = .ok (.iload_n 1, 1) := by decide +kernel
theorem dX8_kind_18 : decode cX8_kind 18 = .ok (.iconst 0, 1) := by decide +kernel
theorem dX8_kind_19 : decode cX8_kind 19 = .ok (.invokestatic 168, 3) := by decide +kernel
theorem dX8_kind_22 : decode cX8_kind 22 = .ok (.goto 5, 3) := by decide +kernel
theorem dX8_kind_25 : decode cX8_kind 25 = .ok (.ldc 73, 2) := by decide +kernel
theorem dX8_kind_27 : decode cX8_kind 27 = .ok (.ireturn, 1) := by decide +kernel
theorem dX8_as_0 : decode cX8_as 0 = .ok (.aload_n 0, 1) := by decide +kernel
theorem dX8_as_1 : decode cX8_as 1 = .ok (.iconst 0, 1) := by decide +kernel
theorem dX8_as_2 : decode cX8_as 2 = .ok (.putfield 53, 3) := by decide +kernel
theorem dX8_as_5 : decode cX8_as 5 = .ok (.aload_n 0, 1) := by decide +kernel
theorem dX8_as_6 : decode cX8_as 6 = .ok (.iload_n 1, 1) := by decide +kernel
theorem dX8_as_7 : decode cX8_as 7 = .ok (.invokevirtual 211, 3) := by decide +kernel
theorem dX8_as_10 : decode cX8_as 10 = .ok (.ifCond .eq 15, 3) := by decide +kernel
theorem dX8_as_13 : decode cX8_as 13 = .ok (.iload_n 2, 1) := by decide +kernel
theorem dX8_as_14 : decode cX8_as 14 = .ok (.i2l, 1) := by decide +kernel
theorem dX8_as_15 : decode cX8_as 15 = .ok (.lconst 0, 1) := by decide +kernel
theorem dX8_as_16 : decode cX8_as 16 = .ok (.ldc2_w 216, 3) := by decide +kernel
theorem dX8_as_19 : decode cX8_as 19 = .ok (.invokestatic 63, 3) := by decide +kernel
theorem dX8_as_22 : decode cX8_as 22 = .ok (.ifCond .ne 6, 3) := by decide +kernel
theorem dX8_as_25 : decode cX8_as 25 = .ok (.ldc 73, 2) := by decide +kernel
theorem dX8_as_27 : decode cX8_as 27 = .ok (.ireturn, 1) := by decide +kernel
theorem dX8_as_28 : decode cX8_as 28 = .ok (.aload_n 0, 1) := by decide +kernel
theorem dX8_as_29 : decode cX8_as 29 = .ok (.iconst 0, 1) := by decide +kernel
theorem dX8_as_30 : decode cX8_as 30 = .ok (.putfield 57, 3) := by decide +kernel
theorem dX8_as_33 : decode cX8_as 33 = .ok (.aload_n 0, 1) := by decide +kernel
theorem dX8_as_34 : decode cX8_as 34 = .ok (.getfield 19, 3) := by decide +kernel
theorem dX8_as_37 : decode cX8_as 37 = .ok (.iload_n 1, 1) := by decide +kernel
theorem dX8_as_38 : decode cX8_as 38 = .ok (.iconst 0, 1) := by decide +kernel
theorem dX8_as_39 : decode cX8_as 39 = .ok (.invokestatic 168, 3) := by decide +kernel
theorem dX8_as_42 : decode cX8_as 42 = .ok (.iload_n 2, 1) := by decide +kernel
theorem dX8_as_43 : decode cX8_as 43 = .ok (.invokestatic 264, 3) := by decide +kernel
theorem dX8_as_46 : decode cX8_as 46 = .ok (.ifCond .eq 7, 3) := by decide +kernel
theorem dX8_as_49 : decode cX8_as 49 = .ok (.iload_n 1, 1) := by decide +kernel
theorem dX8_as_50 : decode cX8_as 50 = .ok (.goto 8, 3) := by decide +kernel
theorem dX8_as_53 : decode cX8_as 53 = .ok (.aload_n 0, 1) := by decide +kernel
theorem dX8_as_54 : decode cX8_as 54 = .ok (.iconst 3, 1) := by decide +kernel
theorem dX8_as_55 : decode cX8_as 55 = .ok (.invokevirtual 74, 3) := by decide +kernel
theorem dX8_as_58 : decode cX8_as 58 = .ok (.ireturn, 1) := by decide +kernel
theorem dX8_began_0 : decode cX8_began 0 = .ok (.aload_n 0, 1) := by decide +kernel
theorem dX8_began_1 : decode cX8_began 1 = .ok (.getfield 267, 3) := by decide +kernel
theorem dX8_began_4 : decode cX8_began 4 = .ok (.bipush 16, 2) := by decide +kernel
theorem dX8_began_6 : decode cX8_began 6 = .ok (.if_icmp .ge 23, 3) := by decide +kernel
theorem dX8_began_9 : decode cX8_began 9 = .ok (.aload_n 0, 1) := by decide +kernel
theorem dX8_began_10 : decode cX8_began 10 = .ok (.getfield 50, 3) := by decide +kernel
theorem dX8_began_13 : decode cX8_began 13 = .ok (.aload_n 0, 1) := by decide +kernel
theorem dX8_began_14 : decode cX8_began 14 = .ok (.getfield 267, 3) := by decide +kernel
theorem dX8_began_17 : decode cX8_began 17 = .ok (.iload_n 1, 1) := by decide +kernel
theorem dX8_began_18 : decode cX8_began 18 = .ok (.iastore, 1) := by decide +kernel
theorem dX8_began_19 : decode cX8_began 19 = .ok (.aload_n 0, 1) := by decide +kernel
theorem dX8_began_20 : decode cX8_began 20 = .ok (.dup, 1) := by decide +kernel
theorem dX8_began_21 : decode cX8_began 21 = .ok (.getfield 267, 3) := by decide +kernel
theorem dX8_began_24 : decode cX8_began 24 = .ok (.iconst 1, 1) := by decide +kernel
theorem dX8_began_25 : decode cX8_began 25 = .ok (.iadd, 1) := by decide +kernel
theorem dX8_began_26 : decode cX8_began 26 = .ok (.putfield 267, 3) := by decide +kernel
theorem dX8_began_29 : decode cX8_began 29 = .ok (.return_, 1) := by decide +kernel
theorem dX8_plainSize_0 : decode cX8_plainSize 0 = .ok (.aload_n 0, 1) := by decide +kernel
theorem dX8_plainSize_1 : decode cX8_plainSize 1 = .ok (.bipush 10, 2) := by decide +kernel
theorem dX8_plainSize_3 : decode cX8_plainSize 3 = .ok (.invokevirtual 270, 3) := by decide +kernel
theorem dX8_plainSize_6 : decode cX8_plainSize 6 = .ok (.aload_n 0, 1) := by decide +kernel
theorem dX8_plainSize_7 : decode cX8_plainSize 7 = .ok (.getfield 19, 3) := by decide +kernel
theorem dX8_plainSize_10 : decode cX8_plainSize 10 = .ok (.iload_n 1, 1) := by decide +kernel
theorem dX8_plainSize_11 : decode cX8_plainSize 11 = .ok (.iconst 3, 1) := by decide +kernel
theorem dX8_plainSize_12 : decode cX8_plainSize 12 = .ok (.invokestatic 168, 3) := by decide +kernel
theorem dX8_plainSize_15 : decode cX8_plainSize 15 = .ok (.ireturn, 1) := by decide +kernel
theorem dX8_maidSize_0 : decode cX8_maidSize 0 = .ok (.aload_n 0, 1) := by decide +kernel
theorem dX8_maidSize_1 : decode cX8_maidSize 1 = .ok (.getfield 19, 3) := by decide +kernel
theorem dX8_maidSize_4 : decode cX8_maidSize 4 = .ok (.iload_n 1, 1) := by decide +kernel
theorem dX8_maidSize_5 : decode cX8_maidSize 5 = .ok (.iconst 0, 1) := by decide +kernel
theorem dX8_maidSize_6 : decode cX8_maidSize 6 = .ok (.invokestatic 168, 3) := by decide +kernel
theorem dX8_maidSize_9 : decode cX8_maidSize 9 = .ok (.iconst 5, 1) := by decide +kernel
theorem dX8_maidSize_10 : decode cX8_maidSize 10 = .ok (.if_icmp .ne 7, 3) := by decide +kernel
theorem dX8_maidSize_13 : decode cX8_maidSize 13 = .ok (.iconst 1, 1) := by decide +kernel
theorem dX8_maidSize_14 : decode cX8_maidSize 14 = .ok (.goto 4, 3) := by decide +kernel
theorem dX8_maidSize_17 : decode cX8_maidSize 17 = .ok (.iconst 0, 1) := by decide +kernel
theorem dX8_maidSize_18 : decode cX8_maidSize 18 = .ok (.istore_n 2, 1) := by decide +kernel
theorem dX8_maidSize_19 : decode cX8_maidSize 19 = .ok (.iload_n 2, 1) := by decide +kernel
theorem dX8_maidSize_20 : decode cX8_maidSize 20 = .ok (.ifCond .eq 9, 3) := by decide +kernel
theorem dX8_maidSize_23 : decode cX8_maidSize 23 = .ok (.aload_n 0, 1) := by decide +kernel
theorem dX8_maidSize_24 : decode cX8_maidSize 24 = .ok (.bipush 14, 2) := by decide +kernel
theorem dX8_maidSize_26 : decode cX8_maidSize 26 = .ok (.invokevirtual 270, 3) := by decide +kernel
theorem dX8_maidSize_29 : decode cX8_maidSize 29 = .ok (.aload_n 0, 1) := by decide +kernel
theorem dX8_maidSize_30 : decode cX8_maidSize 30 = .ok (.bipush 13, 2) := by decide +kernel
theorem dX8_maidSize_32 : decode cX8_maidSize 32 = .ok (.invokevirtual 270, 3) := by decide +kernel
theorem dX8_maidSize_35 : decode cX8_maidSize 35 = .ok (.aload_n 0, 1) := by decide +kernel
theorem dX8_maidSize_36 : decode cX8_maidSize 36 = .ok (.iload_n 1, 1) := by decide +kernel
theorem dX8_maidSize_37 : decode cX8_maidSize 37 = .ok (.invokevirtual 273, 3) := by decide +kernel
theorem dX8_maidSize_40 : decode cX8_maidSize 40 = .ok (.bipush 100, 2) := by decide +kernel
theorem dX8_maidSize_42 : decode cX8_maidSize 42 = .ok (.isub, 1) := by decide +kernel
theorem dX8_maidSize_43 : decode cX8_maidSize 43 = .ok (.istore_n 3, 1) := by decide +kernel
theorem dX8_maidSize_44 : decode cX8_maidSize 44 = .ok (.iload_n 2, 1) := by decide +kernel
theorem dX8_maidSize_45 : decode cX8_maidSize 45 = .ok (.ifCond .eq 9, 3) := by decide +kernel
theorem dX8_maidSize_48 : decode cX8_maidSize 48 = .ok (.iconst 2, 1) := by decide +kernel
theorem dX8_maidSize_49 : decode cX8_maidSize 49 = .ok (.iload_n 3, 1) := by decide +kernel
theorem dX8_maidSize_50 : decode cX8_maidSize 50 = .ok (.imul, 1) := by decide +kernel
theorem dX8_maidSize_51 : decode cX8_maidSize 51 = .ok (.goto 4, 3) := by decide +kernel
theorem dX8_maidSize_54 : decode cX8_maidSize 54 = .ok (.iload_n 3, 1) := by decide +kernel
theorem dX8_maidSize_55 : decode cX8_maidSize 55 = .ok (.ireturn, 1) := by decide +kernel
theorem dX8_markOf_0 : decode cX8_markOf 0 = .ok (.aload_n 0, 1) := by decide +kernel
theorem dX8_markOf_1 : decode cX8_markOf 1 = .ok (.getfield 19, 3) := by decide +kernel
theorem dX8_markOf_4 : decode cX8_markOf 4 = .ok (.iload_n 1, 1) := by decide +kernel
theorem dX8_markOf_5 : decode cX8_markOf 5 = .ok (.iconst 0, 1) := by decide +kernel
theorem dX8_markOf_6 : decode cX8_markOf 6 = .ok (.invokestatic 168, 3) := by decide +kernel
theorem dX8_markOf_9 : decode cX8_markOf 9 = .ok (.istore_n 2, 1) := by decide +kernel
theorem dX8_markOf_10 : decode cX8_markOf 10 = .ok (.iload_n 2, 1) := by decide +kernel
theorem dX8_markOf_11 : decode cX8_markOf 11 = .ok (.iconst 4, 1) := by decide +kernel
theorem dX8_markOf_12 : decode cX8_markOf 12 = .ok (.if_icmp .lt 23, 3) := by decide +kernel
theorem dX8_markOf_15 : decode cX8_markOf 15 = .ok (.aload_n 0, 1) := by decide +kernel
theorem dX8_markOf_16 : decode cX8_markOf 16 = .ok (.bipush 23, 2) := by decide +kernel
theorem dX8_markOf_18 : decode cX8_markOf 18 = .ok (.invokevirtual 270, 3) := by decide +kernel
theorem dX8_markOf_21 : decode cX8_markOf 21 = .ok (.aload_n 0, 1) := by decide +kernel
theorem dX8_markOf_22 : decode cX8_markOf 22 = .ok (.bipush 20, 2) := by decide +kernel
theorem dX8_markOf_24 : decode cX8_markOf 24 = .ok (.invokevirtual 270, 3) := by decide +kernel
theorem dX8_markOf_27 : decode cX8_markOf 27 = .ok (.iload_n 1, 1) := by decide +kernel
theorem dX8_markOf_28 : decode cX8_markOf 28 = .ok (.aload_n 0, 1) := by decide +kernel
theorem dX8_markOf_29 : decode cX8_markOf 29 = .ok (.iload_n 1, 1) := by decide +kernel
theorem dX8_markOf_30 : decode cX8_markOf 30 = .ok (.invokevirtual 276, 3) := by decide +kernel
theorem dX8_markOf_33 : decode cX8_markOf 33 = .ok (.isub, 1) := by decide +kernel
theorem dX8_markOf_34 : decode cX8_markOf 34 = .ok (.ireturn, 1) := by decide +kernel
theorem dX8_markOf_35 : decode cX8_markOf 35 = .ok (.iload_n 2, 1) := by decide +kernel
theorem dX8_markOf_36 : decode cX8_markOf 36 = .ok (.iconst 1, 1) := by decide +kernel
theorem dX8_markOf_37 : decode cX8_markOf 37 = .ok (.if_icmp .eq 19, 3) := by decide +kernel
theorem dX8_markOf_40 : decode cX8_markOf 40 = .ok (.aload_n 0, 1) := by decide +kernel
theorem dX8_markOf_41 : decode cX8_markOf 41 = .ok (.iload_n 2, 1) := by decide +kernel
theorem dX8_markOf_42 : decode cX8_markOf 42 = .ok (.iconst 3, 1) := by decide +kernel
theorem dX8_markOf_43 : decode cX8_markOf 43 = .ok (.if_icmp .ne 8, 3) := by decide +kernel
theorem dX8_markOf_46 : decode cX8_markOf 46 = .ok (.bipush 22, 2) := by decide +kernel
theorem dX8_markOf_48 : decode cX8_markOf 48 = .ok (.goto 5, 3) := by decide +kernel
theorem dX8_markOf_51 : decode cX8_markOf 51 = .ok (.bipush 24, 2) := by decide +kernel
theorem dX8_markOf_53 : decode cX8_markOf 53 = .ok (.invokevirtual 270, 3) := by decide +kernel
theorem dX8_markOf_56 : decode cX8_markOf 56 = .ok (.aload_n 0, 1) := by decide +kernel
theorem dX8_markOf_57 : decode cX8_markOf 57 = .ok (.bipush 21, 2) := by decide +kernel
theorem dX8_markOf_59 : decode cX8_markOf 59 = .ok (.invokevirtual 270, 3) := by decide +kernel
theorem dX8_markOf_62 : decode cX8_markOf 62 = .ok (.aload_n 0, 1) := by decide +kernel
theorem dX8_markOf_63 : decode cX8_markOf 63 = .ok (.bipush 20, 2) := by decide +kernel
theorem dX8_markOf_65 : decode cX8_markOf 65 = .ok (.invokevirtual 270, 3) := by decide +kernel
theorem dX8_markOf_68 : decode cX8_markOf 68 = .ok (.iload_n 1, 1) := by decide +kernel
theorem dX8_markOf_69 : decode cX8_markOf 69 = .ok (.aload_n 0, 1) := by decide +kernel
theorem dX8_markOf_70 : decode cX8_markOf 70 = .ok (.getfield 19, 3) := by decide +kernel
theorem dX8_markOf_73 : decode cX8_markOf 73 = .ok (.iload_n 1, 1) := by decide +kernel
theorem dX8_markOf_74 : decode cX8_markOf 74 = .ok (.aload_n 0, 1) := by decide +kernel
theorem dX8_markOf_75 : decode cX8_markOf 75 = .ok (.getfield 19, 3) := by decide +kernel
theorem dX8_markOf_78 : decode cX8_markOf 78 = .ok (.iconst 3, 1) := by decide +kernel
theorem dX8_markOf_79 : decode cX8_markOf 79 = .ok (.iaload, 1) := by decide +kernel
theorem dX8_markOf_80 : decode cX8_markOf 80 = .ok (.invokestatic 175, 3) := by decide +kernel
theorem dX8_markOf_83 : decode cX8_markOf 83 = .ok (.iadd, 1) := by decide +kernel
theorem dX8_markOf_84 : decode cX8_markOf 84 = .ok (.istore_n 3, 1) := by decide +kernel
theorem dX8_markOf_85 : decode cX8_markOf 85 = .ok (.iload_n 2, 1) := by decide +kernel
theorem dX8_markOf_86 : decode cX8_markOf 86 = .ok (.iconst 1, 1) := by decide +kernel
theorem dX8_markOf_87 : decode cX8_markOf 87 = .ok (.if_icmp .ne 7, 3) := by decide +kernel
theorem dX8_markOf_90 : decode cX8_markOf 90 = .ok (.iload_n 3, 1) := by decide +kernel
theorem dX8_markOf_91 : decode cX8_markOf 91 = .ok (.goto 19, 3) := by decide +kernel
theorem dX8_markOf_94 : decode cX8_markOf 94 = .ok (.iload_n 2, 1) := by decide +kernel
theorem dX8_markOf_95 : decode cX8_markOf 95 = .ok (.iconst 3, 1) := by decide +kernel
theorem dX8_markOf_96 : decode cX8_markOf 96 = .ok (.if_icmp .ne 11, 3) := by decide +kernel
theorem dX8_markOf_99 : decode cX8_markOf 99 = .ok (.iload_n 3, 1) := by decide +kernel
theorem dX8_markOf_100 : decode cX8_markOf 100 = .ok (.sipush 1000, 3) := by decide +kernel
theorem dX8_markOf_103 : decode cX8_markOf 103 = .ok (.isub, 1) := by decide +kernel
theorem dX8_markOf_104 : decode cX8_markOf 104 = .ok (.goto 6, 3) := by decide +kernel
theorem dX8_markOf_107 : decode cX8_markOf 107 = .ok (.iconst 2, 1) := by decide +kernel
theorem dX8_markOf_108 : decode cX8_markOf 108 = .ok (.iload_n 3, 1) := by decide +kernel
theorem dX8_markOf_109 : decode cX8_markOf 109 = .ok (.imul, 1) := by decide +kernel
theorem dX8_markOf_110 : decode cX8_markOf 110 = .ok (.ireturn, 1) := by decide +kernel
theorem dX8_sizeOf_0 : decode cX8_sizeOf 0 = .ok (.aload_n 0, 1) := by decide +kernel
theorem dX8_sizeOf_1 : decode cX8_sizeOf 1 = .ok (.getfield 19, 3) := by decide +kernel
theorem dX8_sizeOf_4 : decode cX8_sizeOf 4 = .ok (.iload_n 1, 1) := by decide +kernel
theorem dX8_sizeOf_5 : decode cX8_sizeOf 5 = .ok (.iconst 0, 1) := by decide +kernel
theorem dX8_sizeOf_6 : decode cX8_sizeOf 6 = .ok (.invokestatic 168, 3) := by decide +kernel
theorem dX8_sizeOf_9 : decode cX8_sizeOf 9 = .ok (.istore_n 2, 1) := by decide +kernel
theorem dX8_sizeOf_10 : decode cX8_sizeOf 10 = .ok (.iload_n 2, 1) := by decide +kernel
theorem dX8_sizeOf_11 : decode cX8_sizeOf 11 = .ok (.iconst 4, 1) := by decide +kernel
theorem dX8_sizeOf_12 : decode cX8_sizeOf 12 = .ok (.if_icmp .lt 9, 3) := by decide +kernel
theorem dX8_sizeOf_15 : decode cX8_sizeOf 15 = .ok (.aload_n 0, 1) := by decide +kernel
theorem dX8_sizeOf_16 : decode cX8_sizeOf 16 = .ok (.iload_n 1, 1) := by decide +kernel
theorem dX8_sizeOf_17 : decode cX8_sizeOf 17 = .ok (.invokevirtual 276, 3) := by decide +kernel
theorem dX8_sizeOf_20 : decode cX8_sizeOf 20 = .ok (.ireturn, 1) := by decide +kernel
theorem dX8_sizeOf_21 : decode cX8_sizeOf 21 = .ok (.iload_n 2, 1) := by decide +kernel
theorem dX8_sizeOf_22 : decode cX8_sizeOf 22 = .ok (.iconst 2, 1) := by decide +kernel
theorem dX8_sizeOf_23 : decode cX8_sizeOf 23 = .ok (.if_icmp .ne 9, 3) := by decide +kernel
theorem dX8_sizeOf_26 : decode cX8_sizeOf 26 = .ok (.aload_n 0, 1) := by decide +kernel
theorem dX8_sizeOf_27 : decode cX8_sizeOf 27 = .ok (.bipush 12, 2) := by decide +kernel
theorem dX8_sizeOf_29 : decode cX8_sizeOf 29 = .ok (.invokevirtual 270, 3) := by decide +kernel
theorem dX8_sizeOf_32 : decode cX8_sizeOf 32 = .ok (.aload_n 0, 1) := by decide +kernel
theorem dX8_sizeOf_33 : decode cX8_sizeOf 33 = .ok (.bipush 11, 2) := by decide +kernel
theorem dX8_sizeOf_35 : decode cX8_sizeOf 35 = .ok (.invokevirtual 270, 3) := by decide +kernel
theorem dX8_sizeOf_38 : decode cX8_sizeOf 38 = .ok (.aload_n 0, 1) := by decide +kernel
theorem dX8_sizeOf_39 : decode cX8_sizeOf 39 = .ok (.iload_n 1, 1) := by decide +kernel
theorem dX8_sizeOf_40 : decode cX8_sizeOf 40 = .ok (.invokevirtual 273, 3) := by decide +kernel
theorem dX8_sizeOf_43 : decode cX8_sizeOf 43 = .ok (.istore_n 3, 1) := by decide +kernel
theorem dX8_sizeOf_44 : decode cX8_sizeOf 44 = .ok (.iload_n 3, 1) := by decide +kernel
theorem dX8_sizeOf_45 : decode cX8_sizeOf 45 = .ok (.aload_n 0, 1) := by decide +kernel
theorem dX8_sizeOf_46 : decode cX8_sizeOf 46 = .ok (.iload_n 1, 1) := by decide +kernel
theorem dX8_sizeOf_47 : decode cX8_sizeOf 47 = .ok (.invokevirtual 279, 3) := by decide +kernel
theorem dX8_sizeOf_50 : decode cX8_sizeOf 50 = .ok (.iadd, 1) := by decide +kernel
theorem dX8_sizeOf_51 : decode cX8_sizeOf 51 = .ok (.istore_n 3, 1) := by decide +kernel
theorem dX8_sizeOf_52 : decode cX8_sizeOf 52 = .ok (.iload_n 2, 1) := by decide +kernel
theorem dX8_sizeOf_53 : decode cX8_sizeOf 53 = .ok (.iconst 2, 1) := by decide +kernel
theorem dX8_sizeOf_54 : decode cX8_sizeOf 54 = .ok (.if_icmp .ne 8, 3) := by decide +kernel
theorem dX8_sizeOf_57 : decode cX8_sizeOf 57 = .ok (.iload_n 3, 1) := by decide +kernel
theorem dX8_sizeOf_58 : decode cX8_sizeOf 58 = .ok (.ineg, 1) := by decide +kernel
theorem dX8_sizeOf_59 : decode cX8_sizeOf 59 = .ok (.goto 4, 3) := by decide +kernel
theorem dX8_sizeOf_62 : decode cX8_sizeOf 62 = .ok (.iload_n 3, 1) := by decide +kernel
theorem dX8_sizeOf_63 : decode cX8_sizeOf 63 = .ok (.ireturn, 1) := by decide +kernel
theorem dX8_ask_0 : decode cX8_ask 0 = .ok (.aload_n 0, 1) := by decide +kernel
theorem dX8_ask_1 : decode cX8_ask 1 = .ok (.iconst 0, 1) := by decide +kernel
theorem dX8_ask_2 : decode cX8_ask 2 = .ok (.putfield 53, 3) := by decide +kernel
theorem dX8_ask_5 : decode cX8_ask 5 = .ok (.aload_n 0, 1) := by decide +kernel
theorem dX8_ask_6 : decode cX8_ask 6 = .ok (.iload_n 1, 1) := by decide +kernel
theorem dX8_ask_7 : decode cX8_ask 7 = .ok (.invokevirtual 211, 3) := by decide +kernel
theorem dX8_ask_10 : decode cX8_ask 10 = .ok (.ifCond .eq 13, 3) := by decide +kernel
theorem dX8_ask_13 : decode cX8_ask 13 = .ok (.iload_n 2, 1) := by decide +kernel
theorem dX8_ask_14 : decode cX8_ask 14 = .ok (.i2l, 1) := by decide +kernel
theorem dX8_ask_15 : decode cX8_ask 15 = .ok (.lconst 0, 1) := by decide +kernel
theorem dX8_ask_16 : decode cX8_ask 16 = .ok (.lconst 1, 1) := by decide +kernel
theorem dX8_ask_17 : decode cX8_ask 17 = .ok (.invokestatic 63, 3) := by decide +kernel
theorem dX8_ask_20 : decode cX8_ask 20 = .ok (.ifCond .ne 6, 3) := by decide +kernel
theorem dX8_ask_23 : decode cX8_ask 23 = .ok (.ldc 73, 2) := by decide +kernel
theorem dX8_ask_25 : decode cX8_ask 25 = .ok (.ireturn, 1) := by decide +kernel
theorem dX8_ask_26 : decode cX8_ask 26 = .ok (.aload_n 0, 1) := by decide +kernel
theorem dX8_ask_27 : decode cX8_ask 27 = .ok (.iconst 0, 1) := by decide +kernel
theorem dX8_ask_28 : decode cX8_ask 28 = .ok (.putfield 267, 3) := by decide +kernel
theorem dX8_ask_31 : decode cX8_ask 31 = .ok (.iload_n 2, 1) := by decide +kernel
theorem dX8_ask_32 : decode cX8_ask 32 = .ok (.ifCond .ne 11, 3) := by decide +kernel
theorem dX8_ask_35 : decode cX8_ask 35 = .ok (.aload_n 0, 1) := by decide +kernel
theorem dX8_ask_36 : decode cX8_ask 36 = .ok (.iload_n 1, 1) := by decide +kernel
theorem dX8_ask_37 : decode cX8_ask 37 = .ok (.invokevirtual 282, 3) := by decide +kernel
theorem dX8_ask_40 : decode cX8_ask 40 = .ok (.goto 8, 3) := by decide +kernel
theorem dX8_ask_43 : decode cX8_ask 43 = .ok (.aload_n 0, 1) := by decide +kernel
theorem dX8_ask_44 : decode cX8_ask 44 = .ok (.iload_n 1, 1) := by decide +kernel
theorem dX8_ask_45 : decode cX8_ask 45 = .ok (.invokevirtual 279, 3) := by decide +kernel
theorem dX8_ask_48 : decode cX8_ask 48 = .ok (.ireturn, 1) := by decide +kernel
theorem dX8_trace_0 : decode cX8_trace 0 = .ok (.aload_n 0, 1) := by decide +kernel
theorem dX8_trace_1 : decode cX8_trace 1 = .ok (.iconst 0, 1) := by decide +kernel
theorem dX8_trace_2 : decode cX8_trace 2 = .ok (.putfield 53, 3) := by decide +kernel
theorem dX8_trace_5 : decode cX8_trace 5 = .ok (.iload_n 1, 1) := by decide +kernel
theorem dX8_trace_6 : decode cX8_trace 6 = .ok (.i2l, 1) := by decide +kernel
theorem dX8_trace_7 : decode cX8_trace 7 = .ok (.lconst 0, 1) := by decide +kernel
theorem dX8_trace_8 : decode cX8_trace 8 = .ok (.aload_n 0, 1) := by decide +kernel
theorem dX8_trace_9 : decode cX8_trace 9 = .ok (.getfield 267, 3) := by decide +kernel
theorem dX8_trace_12 : decode cX8_trace 12 = .ok (.iconst 1, 1) := by decide +kernel
theorem dX8_trace_13 : decode cX8_trace 13 = .ok (.isub, 1) := by decide +kernel
theorem dX8_trace_14 : decode cX8_trace 14 = .ok (.i2l, 1) := by decide +kernel
theorem dX8_trace_15 : decode cX8_trace 15 = .ok (.invokestatic 63, 3) := by decide +kernel
theorem dX8_trace_18 : decode cX8_trace 18 = .ok (.ifCond .eq 12, 3) := by decide +kernel
theorem dX8_trace_21 : decode cX8_trace 21 = .ok (.aload_n 0, 1) := by decide +kernel
theorem dX8_trace_22 : decode cX8_trace 22 = .ok (.getfield 50, 3) := by decide +kernel
theorem dX8_trace_25 : decode cX8_trace 25 = .ok (.iload_n 1, 1) := by decide +kernel
theorem dX8_trace_26 : decode cX8_trace 26 = .ok (.iaload, 1) := by decide +kernel
theorem dX8_trace_27 : decode cX8_trace 27 = .ok (.goto 5, 3) := by decide +kernel
theorem dX8_trace_30 : decode cX8_trace 30 = .ok (.ldc 96, 2) := by decide +kernel
theorem dX8_trace_32 : decode cX8_trace 32 = .ok (.ireturn, 1) := by decide +kernel
theorem dX8_count_0 : decode cX8_count 0 = .ok (.aload_n 0, 1) := by decide +kernel
theorem dX8_count_1 : decode cX8_count 1 = .ok (.iconst 0, 1) := by decide +kernel
theorem dX8_count_2 : decode cX8_count 2 = .ok (.putfield 53, 3) := by decide +kernel
theorem dX8_count_5 : decode cX8_count 5 = .ok (.iconst 0, 1) := by decide +kernel
theorem dX8_count_6 : decode cX8_count 6 = .ok (.istore_n 2, 1) := by decide +kernel
theorem dX8_count_7 : decode cX8_count 7 = .ok (.iload_n 1, 1) := by decide +kernel
theorem dX8_count_8 : decode cX8_count 8 = .ok (.tableswitch 127 0 7 #[48, 81, 88, 95, 102, 110, 117, 122], 48) := by decide +kernel
theorem dX8_count_56 : decode cX8_count 56 = .ok (.iconst 0, 1) := by decide +kernel
theorem dX8_count_57 : decode cX8_count 57 = .ok (.istore_n 3, 1) := by decide +kernel
theorem dX8_count_58 : decode cX8_count 58 = .ok (.iload_n 3, 1) := by decide +kernel
theorem dX8_count_59 : decode cX8_count 59 = .ok (.bipush 8, 2) := by decide +kernel
theorem dX8_count_61 : decode cX8_count 61 = .ok (.if_icmp .ge 26, 3) := by decide +kernel
theorem dX8_count_64 : decode cX8_count 64 = .ok (.iload_n 2, 1) := by decide +kernel
theorem dX8_count_65 : decode cX8_count 65 = .ok (.aload_n 0, 1) := by decide +kernel
theorem dX8_count_66 : decode cX8_count 66 = .ok (.getfield 7, 3) := by decide +kernel
theorem dX8_count_69 : decode cX8_count 69 = .ok (.iload_n 3, 1) := by decide +kernel
theorem dX8_count_70 : decode cX8_count 70 = .ok (.iaload, 1) := by decide +kernel
theorem dX8_count_71 : decode cX8_count 71 = .ok (.ifCond .lt 7, 3) := by decide +kernel
theorem dX8_count_74 : decode cX8_count 74 = .ok (.iconst 1, 1) := by decide +kernel
theorem dX8_count_75 : decode cX8_count 75 = .ok (.goto 4, 3) := by decide +kernel
theorem dX8_count_78 : decode cX8_count 78 = .ok (.iconst 0, 1) := by decide +kernel
theorem dX8_count_79 : decode cX8_count 79 = .ok (.iadd, 1) := by decide +kernel
theorem dX8_count_80 : decode cX8_count 80 = .ok (.istore_n 2, 1) := by decide +kernel
theorem dX8_count_81 : decode cX8_count 81 = .ok (.iinc 3 1, 3) := by decide +kernel
theorem dX8_count_84 : decode cX8_count 84 = .ok (.goto (-26), 3) := by decide +kernel
theorem dX8_count_87 : decode cX8_count 87 = .ok (.iload_n 2, 1) := by decide +kernel
theorem dX8_count_88 : decode cX8_count 88 = .ok (.ireturn, 1) := by decide +kernel
theorem dX8_count_89 : decode cX8_count 89 = .ok (.aload_n 0, 1) := by decide +kernel
theorem dX8_count_90 : decode cX8_count 90 = .ok (.getfield 19, 3) := by decide +kernel
theorem dX8_count_93 : decode cX8_count 93 = .ok (.iconst 0, 1) := by decide +kernel
theorem dX8_count_94 : decode cX8_count 94 = .ok (.iaload, 1) := by decide +kernel
theorem dX8_count_95 : decode cX8_count 95 = .ok (.ireturn, 1) := by decide +kernel
theorem dX8_count_96 : decode cX8_count 96 = .ok (.aload_n 0, 1) := by decide +kernel
theorem dX8_count_97 : decode cX8_count 97 = .ok (.getfield 19, 3) := by decide +kernel
theorem dX8_count_100 : decode cX8_count 100 = .ok (.iconst 2, 1) := by decide +kernel
theorem dX8_count_101 : decode cX8_count 101 = .ok (.iaload, 1) := by decide +kernel
theorem dX8_count_102 : decode cX8_count 102 = .ok (.ireturn, 1) := by decide +kernel
theorem dX8_count_103 : decode cX8_count 103 = .ok (.aload_n 0, 1) := by decide +kernel
theorem dX8_count_104 : decode cX8_count 104 = .ok (.getfield 19, 3) := by decide +kernel
theorem dX8_count_107 : decode cX8_count 107 = .ok (.iconst 3, 1) := by decide +kernel
theorem dX8_count_108 : decode cX8_count 108 = .ok (.iaload, 1) := by decide +kernel
theorem dX8_count_109 : decode cX8_count 109 = .ok (.ireturn, 1) := by decide +kernel
theorem dX8_count_110 : decode cX8_count 110 = .ok (.aload_n 0, 1) := by decide +kernel
theorem dX8_count_111 : decode cX8_count 111 = .ok (.getfield 19, 3) := by decide +kernel
theorem dX8_count_114 : decode cX8_count 114 = .ok (.invokestatic 208, 3) := by decide +kernel
theorem dX8_count_117 : decode cX8_count 117 = .ok (.ireturn, 1) := by decide +kernel
theorem dX8_count_118 : decode cX8_count 118 = .ok (.aload_n 0, 1) := by decide +kernel
theorem dX8_count_119 : decode cX8_count 119 = .ok (.getfield 19, 3) := by decide +kernel
theorem dX8_count_122 : decode cX8_count 122 = .ok (.iconst 4, 1) := by decide +kernel
theorem dX8_count_123 : decode cX8_count 123 = .ok (.iaload, 1) := by decide +kernel
theorem dX8_count_124 : decode cX8_count 124 = .ok (.ireturn, 1) := by decide +kernel
theorem dX8_count_125 : decode cX8_count 125 = .ok (.aload_n 0, 1) := by decide +kernel
theorem dX8_count_126 : decode cX8_count 126 = .ok (.getfield 152, 3) := by decide +kernel
theorem dX8_count_129 : decode cX8_count 129 = .ok (.ireturn, 1) := by decide +kernel
theorem dX8_count_130 : decode cX8_count 130 = .ok (.aload_n 0, 1) := by decide +kernel
theorem dX8_count_131 : decode cX8_count 131 = .ok (.getfield 80, 3) := by decide +kernel
theorem dX8_count_134 : decode cX8_count 134 = .ok (.ireturn, 1) := by decide +kernel
theorem dX8_count_135 : decode cX8_count 135 = .ok (.ldc 73, 2) := by decide +kernel
theorem dX8_count_137 : decode cX8_count 137 = .ok (.ireturn, 1) := by decide +kernel
theorem dX8_status_0 : decode cX8_status 0 = .ok (.aload_n 0, 1) := by decide +kernel
theorem dX8_status_1 : decode cX8_status 1 = .ok (.iconst 0, 1) := by decide +kernel
theorem dX8_status_2 : decode cX8_status 2 = .ok (.putfield 53, 3) := by decide +kernel
theorem dX8_status_5 : decode cX8_status 5 = .ok (.aload_n 0, 1) := by decide +kernel
theorem dX8_status_6 : decode cX8_status 6 = .ok (.getfield 57, 3) := by decide +kernel
theorem dX8_status_9 : decode cX8_status 9 = .ok (.ireturn, 1) := by decide +kernel
end
section
theorem dL_law_0 : decode cL_law 0 = .ok (.new 7, 3) := by decide +kernel
theorem dL_law_3 : decode cL_law 3 = .ok (.dup, 1) := by decide +kernel
theorem dL_law_4 : decode cL_law 4 = .ok (.invokespecial 9, 3) := by decide +kernel
theorem dL_law_7 : decode cL_law 7 = .ok (.astore_n 1, 1) := by decide +kernel
theorem dL_law_8 : decode cL_law 8 = .ok (.new 10, 3) := by decide +kernel
theorem dL_law_11 : decode cL_law 11 = .ok (.dup, 1) := by decide +kernel
theorem dL_law_12 : decode cL_law 12 = .ok (.invokespecial 12, 3) := by decide +kernel
theorem dL_law_15 : decode cL_law 15 = .ok (.astore_n 2, 1) := by decide +kernel
theorem dL_law_16 : decode cL_law 16 = .ok (.iconst 0, 1) := by decide +kernel
theorem dL_law_17 : decode cL_law 17 = .ok (.istore_n 3, 1) := by decide +kernel
theorem dL_law_18 : decode cL_law 18 = .ok (.iload_n 3, 1) := by decide +kernel
theorem dL_law_19 : decode cL_law 19 = .ok (.aload_n 0, 1) := by decide +kernel
theorem dL_law_20 : decode cL_law 20 = .ok (.arraylength, 1) := by decide +kernel
theorem dL_law_21 : decode cL_law 21 = .ok (.bipush 7, 2) := by decide +kernel
theorem dL_law_23 : decode cL_law 23 = .ok (.isub, 1) := by decide +kernel
theorem dL_law_24 : decode cL_law 24 = .ok (.if_icmp .gt 1520, 3) := by decide +kernel
theorem dL_law_27 : decode cL_law 27 = .ok (.aload_n 0, 1) := by decide +kernel
theorem dL_law_28 : decode cL_law 28 = .ok (.iload_n 3, 1) := by decide +kernel
theorem dL_law_29 : decode cL_law 29 = .ok (.iaload, 1) := by decide +kernel
theorem dL_law_30 : decode cL_law 30 = .ok (.bipush 63, 2) := by decide +kernel
theorem dL_law_32 : decode cL_law 32 = .ok (.iand, 1) := by decide +kernel
theorem dL_law_33 : decode cL_law 33 = .ok (.tableswitch 1505 0 40 #[179, 222, 265, 328, 351, 374, 387, 400, 413, 436, 479, 502, 535, 568, 601, 634, 657, 690, 723, 746, 779, 822, 855, 868, 911, 944, 977, 1000, 1075, 1128, 1181, 1214, 1268, 1311, 1334, 1357, 1380, 1413, 1446, 1469, 1492], 179) := by decide +kernel
theorem dL_law_212 : decode cL_law 212 = .ok (.aload_n 1, 1) := by decide +kernel
theorem dL_law_213 : decode cL_law 213 = .ok (.aload_n 0, 1) := by decide +kernel
theorem dL_law_214 : decode cL_law 214 = .ok (.iload_n 3, 1) := by decide +kernel
theorem dL_law_215 : decode cL_law 215 = .ok (.iconst 1, 1) := by decide +kernel
theorem dL_law_216 : decode cL_law 216 = .ok (.iadd, 1) := by decide +kernel
theorem dL_law_217 : decode cL_law 217 = .ok (.iaload, 1) := by decide +kernel
theorem dL_law_218 : decode cL_law 218 = .ok (.aload_n 0, 1) := by decide +kernel
theorem dL_law_219 : decode cL_law 219 = .ok (.iload_n 3, 1) := by decide +kernel
theorem dL_law_220 : decode cL_law 220 = .ok (.iconst 2, 1) := by decide +kernel
theorem dL_law_221 : decode cL_law 221 = .ok (.iadd, 1) := by decide +kernel
theorem dL_law_222 : decode cL_law 222 = .ok (.iaload, 1) := by decide +kernel
theorem dL_law_223 : decode cL_law 223 = .ok (.aload_n 0, 1) := by decide +kernel
theorem dL_law_224 : decode cL_law 224 = .ok (.iload_n 3, 1) := by decide +kernel
theorem dL_law_225 : decode cL_law 225 = .ok (.iconst 3, 1) := by decide +kernel
theorem dL_law_226 : decode cL_law 226 = .ok (.iadd, 1) := by decide +kernel
theorem dL_law_227 : decode cL_law 227 = .ok (.iaload, 1) := by decide +kernel
theorem dL_law_228 : decode cL_law 228 = .ok (.invokevirtual 13, 3) := by decide +kernel
theorem dL_law_231 : decode cL_law 231 = .ok (.aload_n 2, 1) := by decide +kernel
theorem dL_law_232 : decode cL_law 232 = .ok (.aload_n 0, 1) := by decide +kernel
theorem dL_law_233 : decode cL_law 233 = .ok (.iload_n 3, 1) := by decide +kernel
theorem dL_law_234 : decode cL_law 234 = .ok (.iconst 1, 1) := by decide +kernel
theorem dL_law_235 : decode cL_law 235 = .ok (.iadd, 1) := by decide +kernel
theorem dL_law_236 : decode cL_law 236 = .ok (.iaload, 1) := by decide +kernel
theorem dL_law_237 : decode cL_law 237 = .ok (.aload_n 0, 1) := by decide +kernel
theorem dL_law_238 : decode cL_law 238 = .ok (.iload_n 3, 1) := by decide +kernel
theorem dL_law_239 : decode cL_law 239 = .ok (.iconst 2, 1) := by decide +kernel
theorem dL_law_240 : decode cL_law 240 = .ok (.iadd, 1) := by decide +kernel
theorem dL_law_241 : decode cL_law 241 = .ok (.iaload, 1) := by decide +kernel
theorem dL_law_242 : decode cL_law 242 = .ok (.aload_n 0, 1) := by decide +kernel
theorem dL_law_243 : decode cL_law 243 = .ok (.iload_n 3, 1) := by decide +kernel
theorem dL_law_244 : decode cL_law 244 = .ok (.iconst 3, 1) := by decide +kernel
theorem dL_law_245 : decode cL_law 245 = .ok (.iadd, 1) := by decide +kernel
theorem dL_law_246 : decode cL_law 246 = .ok (.iaload, 1) := by decide +kernel
theorem dL_law_247 : decode cL_law 247 = .ok (.invokevirtual 17, 3) := by decide +kernel
theorem dL_law_250 : decode cL_law 250 = .ok (.if_icmp .eq 1288, 3) := by decide +kernel
theorem dL_law_253 : decode cL_law 253 = .ok (.iconst 0, 1) := by decide +kernel
theorem dL_law_254 : decode cL_law 254 = .ok (.ireturn, 1) := by decide +kernel
theorem dL_law_255 : decode cL_law 255 = .ok (.aload_n 1, 1) := by decide +kernel
theorem dL_law_256 : decode cL_law 256 = .ok (.aload_n 0, 1) := by decide +kernel
theorem dL_law_257 : decode cL_law 257 = .ok (.iload_n 3, 1) := by decide +kernel
theorem dL_law_258 : decode cL_law 258 = .ok (.iconst 1, 1) := by decide +kernel
theorem dL_law_259 : decode cL_law 259 = .ok (.iadd, 1) := by decide +kernel
theorem dL_law_260 : decode cL_law 260 = .ok (.iaload, 1) := by decide +kernel
theorem dL_law_261 : decode cL_law 261 = .ok (.aload_n 0, 1) := by decide +kernel
theorem dL_law_262 : decode cL_law 262 = .ok (.iload_n 3, 1) := by decide +kernel
theorem dL_law_263 : decode cL_law 263 = .ok (.iconst 2, 1) := by decide +kernel
theorem dL_law_264 : decode cL_law 264 = .ok (.iadd, 1) := by decide +kernel
theorem dL_law_265 : decode cL_law 265 = .ok (.iaload, 1) := by decide +kernel
theorem dL_law_266 : decode cL_law 266 = .ok (.aload_n 0, 1) := by decide +kernel
theorem dL_law_267 : decode cL_law 267 = .ok (.iload_n 3, 1) := by decide +kernel
theorem dL_law_268 : decode cL_law 268 = .ok (.iconst 3, 1) := by decide +kernel
theorem dL_law_269 : decode cL_law 269 = .ok (.iadd, 1) := by decide +kernel
theorem dL_law_270 : decode cL_law 270 = .ok (.iaload, 1) := by decide +kernel
theorem dL_law_271 : decode cL_law 271 = .ok (.invokevirtual 18, 3) := by decide +kernel
theorem dL_law_274 : decode cL_law 274 = .ok (.aload_n 2, 1) := by decide +kernel
theorem dL_law_275 : decode cL_law 275 = .ok (.aload_n 0, 1) := by decide +kernel
theorem dL_law_276 : decode cL_law 276 = .ok (.iload_n 3, 1) := by decide +kernel
theorem dL_law_277 : decode cL_law 277 = .ok (.iconst 1, 1) := by decide +kernel
theorem dL_law_278 : decode cL_law 278 = .ok (.iadd, 1) := by decide +kernel
theorem dL_law_279 : decode cL_law 279 = .ok (.iaload, 1) := by decide +kernel
theorem dL_law_280 : decode cL_law 280 = .ok (.aload_n 0, 1) := by decide +kernel
theorem dL_law_281 : decode cL_law 281 = .ok (.iload_n 3, 1) := by decide +kernel
theorem dL_law_282 : decode cL_law 282 = .ok (.iconst 2, 1) := by decide +kernel
theorem dL_law_283 : decode cL_law 283 = .ok (.iadd, 1) := by decide +kernel
theorem dL_law_284 : decode cL_law 284 = .ok (.iaload, 1) := by decide +kernel
theorem dL_law_285 : decode cL_law 285 = .ok (.aload_n 0, 1) := by decide +kernel
theorem dL_law_286 : decode cL_law 286 = .ok (.iload_n 3, 1) := by decide +kernel
theorem dL_law_287 : decode cL_law 287 = .ok (.iconst 3, 1) := by decide +kernel
theorem dL_law_288 : decode cL_law 288 = .ok (.iadd, 1) := by decide +kernel
theorem dL_law_289 : decode cL_law 289 = .ok (.iaload, 1) := by decide +kernel
theorem dL_law_290 : decode cL_law 290 = .ok (.invokevirtual 21, 3) := by decide +kernel
theorem dL_law_293 : decode cL_law 293 = .ok (.if_icmp .eq 1245, 3) := by decide +kernel
theorem dL_law_296 : decode cL_law 296 = .ok (.iconst 0, 1) := by decide +kernel
theorem dL_law_297 : decode cL_law 297 = .ok (.ireturn, 1) := by decide +kernel
theorem dL_law_298 : decode cL_law 298 = .ok (.aload_n 1, 1) := by decide +kernel
theorem dL_law_299 : decode cL_law 299 = .ok (.aload_n 0, 1) := by decide +kernel
theorem dL_law_300 : decode cL_law 300 = .ok (.iload_n 3, 1) := by decide +kernel
theorem dL_law_301 : decode cL_law 301 = .ok (.iconst 1, 1) := by decide +kernel
theorem dL_law_302 : decode cL_law 302 = .ok (.iadd, 1) := by decide +kernel
theorem dL_law_303 : decode cL_law 303 = .ok (.iaload, 1) := by decide +kernel
theorem dL_law_304 : decode cL_law 304 = .ok (.aload_n 0, 1) := by decide +kernel
theorem dL_law_305 : decode cL_law 305 = .ok (.iload_n 3, 1) := by decide +kernel
theorem dL_law_306 : decode cL_law 306 = .ok (.iconst 2, 1) := by decide +kernel
theorem dL_law_307 : decode cL_law 307 = .ok (.iadd, 1) := by decide +kernel
theorem dL_law_308 : decode cL_law 308 = .ok (.iaload, 1) := by decide +kernel
theorem dL_law_309 : decode cL_law 309 = .ok (.aload_n 0, 1) := by decide +kernel
theorem dL_law_310 : decode cL_law 310 = .ok (.iload_n 3, 1) := by decide +kernel
theorem dL_law_311 : decode cL_law 311 = .ok (.iconst 3, 1) := by decide +kernel
theorem dL_law_312 : decode cL_law 312 = .ok (.iadd, 1) := by decide +kernel
theorem dL_law_313 : decode cL_law 313 = .ok (.iaload, 1) := by decide +kernel
theorem dL_law_314 : decode cL_law 314 = .ok (.aload_n 0, 1) := by decide +kernel
theorem dL_law_315 : decode cL_law 315 = .ok (.iload_n 3, 1) := by decide +kernel
theorem dL_law_316 : decode cL_law 316 = .ok (.iconst 4, 1) := by decide +kernel
theorem dL_law_317 : decode cL_law 317 = .ok (.iadd, 1) := by decide +kernel
theorem dL_law_318 : decode cL_law 318 = .ok (.iaload, 1) := by decide +kernel
theorem dL_law_319 : decode cL_law 319 = .ok (.aload_n 0, 1) := by decide +kernel
theorem dL_law_320 : decode cL_law 320 = .ok (.iload_n 3, 1) := by decide +kernel
theorem dL_law_321 : decode cL_law 321 = .ok (.iconst 5, 1) := by decide +kernel
theorem dL_law_322 : decode cL_law 322 = .ok (.iadd, 1) := by decide +kernel
theorem dL_law_323 : decode cL_law 323 = .ok (.iaload, 1) := by decide +kernel
theorem dL_law_324 : decode cL_law 324 = .ok (.invokevirtual 22, 3) := by decide +kernel
theorem dL_law_327 : decode cL_law 327 = .ok (.aload_n 2, 1) := by decide +kernel
theorem dL_law_328 : decode cL_law 328 = .ok (.aload_n 0, 1) := by decide +kernel
theorem dL_law_329 : decode cL_law 329 = .ok (.iload_n 3, 1) := by decide +kernel
theorem dL_law_330 : decode cL_law 330 = .ok (.iconst 1, 1) := by decide +kernel
theorem dL_law_331 : decode cL_law 331 = .ok (.iadd, 1) := by decide +kernel
theorem dL_law_332 : decode cL_law 332 = .ok (.iaload, 1) := by decide +kernel
theorem dL_law_333 : decode cL_law 333 = .ok (.aload_n 0, 1) := by decide +kernel
theorem dL_law_334 : decode cL_law 334 = .ok (.iload_n 3, 1) := by decide +kernel
theorem dL_law_335 : decode cL_law 335 = .ok (.iconst 2, 1) := by decide +kernel
theorem dL_law_336 : decode cL_law 336 = .ok (.iadd, 1) := by decide +kernel
theorem dL_law_337 : decode cL_law 337 = .ok (.iaload, 1) := by decide +kernel
theorem dL_law_338 : decode cL_law 338 = .ok (.aload_n 0, 1) := by decide +kernel
theorem dL_law_339 : decode cL_law 339 = .ok (.iload_n 3, 1) := by decide +kernel
theorem dL_law_340 : decode cL_law 340 = .ok (.iconst 3, 1) := by decide +kernel
theorem dL_law_341 : decode cL_law 341 = .ok (.iadd, 1) := by decide +kernel
theorem dL_law_342 : decode cL_law 342 = .ok (.iaload, 1) := by decide +kernel
theorem dL_law_343 : decode cL_law 343 = .ok (.aload_n 0, 1) := by decide +kernel
theorem dL_law_344 : decode cL_law 344 = .ok (.iload_n 3, 1) := by decide +kernel
theorem dL_law_345 : decode cL_law 345 = .ok (.iconst 4, 1) := by decide +kernel
theorem dL_law_346 : decode cL_law 346 = .ok (.iadd, 1) := by decide +kernel
theorem dL_law_347 : decode cL_law 347 = .ok (.iaload, 1) := by decide +kernel
theorem dL_law_348 : decode cL_law 348 = .ok (.aload_n 0, 1) := by decide +kernel
theorem dL_law_349 : decode cL_law 349 = .ok (.iload_n 3, 1) := by decide +kernel
theorem dL_law_350 : decode cL_law 350 = .ok (.iconst 5, 1) := by decide +kernel
theorem dL_law_351 : decode cL_law 351 = .ok (.iadd, 1) := by decide +kernel
theorem dL_law_352 : decode cL_law 352 = .ok (.iaload, 1) := by decide +kernel
theorem dL_law_353 : decode cL_law 353 = .ok (.invokevirtual 26, 3) := by decide +kernel
theorem dL_law_356 : decode cL_law 356 = .ok (.if_icmp .eq 1182, 3) := by decide +kernel
theorem dL_law_359 : decode cL_law 359 = .ok (.iconst 0, 1) := by decide +kernel
theorem dL_law_360 : decode cL_law 360 = .ok (.ireturn, 1) := by decide +kernel
theorem dL_law_361 : decode cL_law 361 = .ok (.aload_n 1, 1) := by decide +kernel
theorem dL_law_362 : decode cL_law 362 = .ok (.aload_n 0, 1) := by decide +kernel
theorem dL_law_363 : decode cL_law 363 = .ok (.iload_n 3, 1) := by decide +kernel
theorem dL_law_364 : decode cL_law 364 = .ok (.iconst 1, 1) := by decide +kernel
theorem dL_law_365 : decode cL_law 365 = .ok (.iadd, 1) := by decide +kernel
theorem dL_law_366 : decode cL_law 366 = .ok (.iaload, 1) := by decide +kernel
theorem dL_law_367 : decode cL_law 367 = .ok (.invokevirtual 27, 3) := by decide +kernel
theorem dL_law_370 : decode cL_law 370 = .ok (.aload_n 2, 1) := by decide +kernel
theorem dL_law_371 : decode cL_law 371 = .ok (.aload_n 0, 1) := by decide +kernel
theorem dL_law_372 : decode cL_law 372 = .ok (.iload_n 3, 1) := by decide +kernel
theorem dL_law_373 : decode cL_law 373 = .ok (.iconst 1, 1) := by decide +kernel
theorem dL_law_374 : decode cL_law 374 = .ok (.iadd, 1) := by decide +kernel
theorem dL_law_375 : decode cL_law 375 = .ok (.iaload, 1) := by decide +kernel
theorem dL_law_376 : decode cL_law 376 = .ok (.invokevirtual 31, 3) := by decide +kernel
theorem dL_law_379 : decode cL_law 379 = .ok (.if_icmp .eq 1159, 3) := by decide +kernel
theorem dL_law_382 : decode cL_law 382 = .ok (.iconst 0, 1) := by decide +kernel
theorem dL_law_383 : decode cL_law 383 = .ok (.ireturn, 1) := by decide +kernel
theorem dL_law_384 : decode cL_law 384 = .ok (.aload_n 1, 1) := by decide +kernel
theorem dL_law_385 : decode cL_law 385 = .ok (.aload_n 0, 1) := by decide +kernel
theorem dL_law_386 : decode cL_law 386 = .ok (.iload_n 3, 1) := by decide +kernel
theorem dL_law_387 : decode cL_law 387 = .ok (.iconst 1, 1) := by decide +kernel
theorem dL_law_388 : decode cL_law 388 = .ok (.iadd, 1) := by decide +kernel
theorem dL_law_389 : decode cL_law 389 = .ok (.iaload, 1) := by decide +kernel
theorem dL_law_390 : decode cL_law 390 = .ok (.invokevirtual 32, 3) := by decide +kernel
theorem dL_law_393 : decode cL_law 393 = .ok (.aload_n 2, 1) := by decide +kernel
theorem dL_law_394 : decode cL_law 394 = .ok (.aload_n 0, 1) := by decide +kernel
theorem dL_law_395 : decode cL_law 395 = .ok (.iload_n 3, 1) := by decide +kernel
theorem dL_law_396 : decode cL_law 396 = .ok (.iconst 1, 1) := by decide +kernel
theorem dL_law_397 : decode cL_law 397 = .ok (.iadd, 1) := by decide +kernel
theorem dL_law_398 : decode cL_law 398 = .ok (.iaload, 1) := by decide +kernel
theorem dL_law_399 : decode cL_law 399 = .ok (.invokevirtual 35, 3) := by decide +kernel
theorem dL_law_402 : decode cL_law 402 = .ok (.if_icmp .eq 1136, 3) := by decide +kernel
theorem dL_law_405 : decode cL_law 405 = .ok (.iconst 0, 1) := by decide +kernel
theorem dL_law_406 : decode cL_law 406 = .ok (.ireturn, 1) := by decide +kernel
theorem dL_law_407 : decode cL_law 407 = .ok (.aload_n 1, 1) := by decide +kernel
theorem dL_law_408 : decode cL_law 408 = .ok (.invokevirtual 36, 3) := by decide +kernel
theorem dL_law_411 : decode cL_law 411 = .ok (.aload_n 2, 1) := by decide +kernel
theorem dL_law_412 : decode cL_law 412 = .ok (.invokevirtual 40, 3) := by decide +kernel
theorem dL_law_415 : decode cL_law 415 = .ok (.if_icmp .eq 1123, 3) := by decide +kernel
theorem dL_law_418 : decode cL_law 418 = .ok (.iconst 0, 1) := by decide +kernel
theorem dL_law_419 : decode cL_law 419 = .ok (.ireturn, 1) := by decide +kernel
theorem dL_law_420 : decode cL_law 420 = .ok (.aload_n 1, 1) := by decide +kernel
theorem dL_law_421 : decode cL_law 421 = .ok (.invokevirtual 41, 3) := by decide +kernel
theorem dL_law_424 : decode cL_law 424 = .ok (.aload_n 2, 1) := by decide +kernel
theorem dL_law_425 : decode cL_law 425 = .ok (.invokevirtual 44, 3) := by decide +kernel
theorem dL_law_428 : decode cL_law 428 = .ok (.if_icmp .eq 1110, 3) := by decide +kernel
theorem dL_law_431 : decode cL_law 431 = .ok (.iconst 0, 1) := by decide +kernel
theorem dL_law_432 : decode cL_law 432 = .ok (.ireturn, 1) := by decide +kernel
theorem dL_law_433 : decode cL_law 433 = .ok (.aload_n 1, 1) := by decide +kernel
theorem dL_law_434 : decode cL_law 434 = .ok (.invokevirtual 45, 3) := by decide +kernel
theorem dL_law_437 : decode cL_law 437 = .ok (.aload_n 2, 1) := by decide +kernel
theorem dL_law_438 : decode cL_law 438 = .ok (.invokevirtual 48, 3) := by decide +kernel
theorem dL_law_441 : decode cL_law 441 = .ok (.if_icmp .eq 1097, 3) := by decide +kernel
theorem dL_law_444 : decode cL_law 444 = .ok (.iconst 0, 1) := by decide +kernel
theorem dL_law_445 : decode cL_law 445 = .ok (.ireturn, 1) := by decide +kernel
theorem dL_law_446 : decode cL_law 446 = .ok (.aload_n 1, 1) := by decide +kernel
theorem dL_law_447 : decode cL_law 447 = .ok (.aload_n 0, 1) := by decide +kernel
theorem dL_law_448 : decode cL_law 448 = .ok (.iload_n 3, 1) := by decide +kernel
theorem dL_law_449 : decode cL_law 449 = .ok (.iconst 1, 1) := by decide +kernel
theorem dL_law_450 : decode cL_law 450 = .ok (.iadd, 1) := by decide +kernel
theorem dL_law_451 : decode cL_law 451 = .ok (.iaload, 1) := by decide +kernel
theorem dL_law_452 : decode cL_law 452 = .ok (.invokevirtual 49, 3) := by decide +kernel
theorem dL_law_455 : decode cL_law 455 = .ok (.aload_n 2, 1) := by decide +kernel
theorem dL_law_456 : decode cL_law 456 = .ok (.aload_n 0, 1) := by decide +kernel
theorem dL_law_457 : decode cL_law 457 = .ok (.iload_n 3, 1) := by decide +kernel
theorem dL_law_458 : decode cL_law 458 = .ok (.iconst 1, 1) := by decide +kernel
theorem dL_law_459 : decode cL_law 459 = .ok (.iadd, 1) := by decide +kernel
theorem dL_law_460 : decode cL_law 460 = .ok (.iaload, 1) := by decide +kernel
theorem dL_law_461 : decode cL_law 461 = .ok (.invokevirtual 52, 3) := by decide +kernel
theorem dL_law_464 : decode cL_law 464 = .ok (.if_icmp .eq 1074, 3) := by decide +kernel
theorem dL_law_467 : decode cL_law 467 = .ok (.iconst 0, 1) := by decide +kernel
theorem dL_law_468 : decode cL_law 468 = .ok (.ireturn, 1) := by decide +kernel
theorem dL_law_469 : decode cL_law 469 = .ok (.aload_n 1, 1) := by decide +kernel
theorem dL_law_470 : decode cL_law 470 = .ok (.aload_n 0, 1) := by decide +kernel
theorem dL_law_471 : decode cL_law 471 = .ok (.iload_n 3, 1) := by decide +kernel
theorem dL_law_472 : decode cL_law 472 = .ok (.iconst 1, 1) := by decide +kernel
theorem dL_law_473 : decode cL_law 473 = .ok (.iadd, 1) := by decide +kernel
theorem dL_law_474 : decode cL_law 474 = .ok (.iaload, 1) := by decide +kernel
theorem dL_law_475 : decode cL_law 475 = .ok (.aload_n 0, 1) := by decide +kernel
theorem dL_law_476 : decode cL_law 476 = .ok (.iload_n 3, 1) := by decide +kernel
theorem dL_law_477 : decode cL_law 477 = .ok (.iconst 2, 1) := by decide +kernel
theorem dL_law_478 : decode cL_law 478 = .ok (.iadd, 1) := by decide +kernel
theorem dL_law_479 : decode cL_law 479 = .ok (.iaload, 1) := by decide +kernel
theorem dL_law_480 : decode cL_law 480 = .ok (.aload_n 0, 1) := by decide +kernel
theorem dL_law_481 : decode cL_law 481 = .ok (.iload_n 3, 1) := by decide +kernel
theorem dL_law_482 : decode cL_law 482 = .ok (.iconst 3, 1) := by decide +kernel
theorem dL_law_483 : decode cL_law 483 = .ok (.iadd, 1) := by decide +kernel
theorem dL_law_484 : decode cL_law 484 = .ok (.iaload, 1) := by decide +kernel
theorem dL_law_485 : decode cL_law 485 = .ok (.invokevirtual 53, 3) := by decide +kernel
theorem dL_law_488 : decode cL_law 488 = .ok (.aload_n 2, 1) := by decide +kernel
theorem dL_law_489 : decode cL_law 489 = .ok (.aload_n 0, 1) := by decide +kernel
theorem dL_law_490 : decode cL_law 490 = .ok (.iload_n 3, 1) := by decide +kernel
theorem dL_law_491 : decode cL_law 491 = .ok (.iconst 1, 1) := by decide +kernel
theorem dL_law_492 : decode cL_law 492 = .ok (.iadd, 1) := by decide +kernel
theorem dL_law_493 : decode cL_law 493 = .ok (.iaload, 1) := by decide +kernel
theorem dL_law_494 : decode cL_law 494 = .ok (.aload_n 0, 1) := by decide +kernel
theorem dL_law_495 : decode cL_law 495 = .ok (.iload_n 3, 1) := by decide +kernel
theorem dL_law_496 : decode cL_law 496 = .ok (.iconst 2, 1) := by decide +kernel
theorem dL_law_497 : decode cL_law 497 = .ok (.iadd, 1) := by decide +kernel
theorem dL_law_498 : decode cL_law 498 = .ok (.iaload, 1) := by decide +kernel
theorem dL_law_499 : decode cL_law 499 = .ok (.aload_n 0, 1) := by decide +kernel
theorem dL_law_500 : decode cL_law 500 = .ok (.iload_n 3, 1) := by decide +kernel
theorem dL_law_501 : decode cL_law 501 = .ok (.iconst 3, 1) := by decide +kernel
theorem dL_law_502 : decode cL_law 502 = .ok (.iadd, 1) := by decide +kernel
theorem dL_law_503 : decode cL_law 503 = .ok (.iaload, 1) := by decide +kernel
theorem dL_law_504 : decode cL_law 504 = .ok (.invokevirtual 56, 3) := by decide +kernel
theorem dL_law_507 : decode cL_law 507 = .ok (.if_icmp .eq 1031, 3) := by decide +kernel
theorem dL_law_510 : decode cL_law 510 = .ok (.iconst 0, 1) := by decide +kernel
theorem dL_law_511 : decode cL_law 511 = .ok (.ireturn, 1) := by decide +kernel
theorem dL_law_512 : decode cL_law 512 = .ok (.aload_n 1, 1) := by decide +kernel
theorem dL_law_513 : decode cL_law 513 = .ok (.aload_n 0, 1) := by decide +kernel
theorem dL_law_514 : decode cL_law 514 = .ok (.iload_n 3, 1) := by decide +kernel
theorem dL_law_515 : decode cL_law 515 = .ok (.iconst 1, 1) := by decide +kernel
theorem dL_law_516 : decode cL_law 516 = .ok (.iadd, 1) := by decide +kernel
theorem dL_law_517 : decode cL_law 517 = .ok (.iaload, 1) := by decide +kernel
theorem dL_law_518 : decode cL_law 518 = .ok (.invokevirtual 57, 3) := by decide +kernel
theorem dL_law_521 : decode cL_law 521 = .ok (.aload_n 2, 1) := by decide +kernel
theorem dL_law_522 : decode cL_law 522 = .ok (.aload_n 0, 1) := by decide +kernel
theorem dL_law_523 : decode cL_law 523 = .ok (.iload_n 3, 1) := by decide +kernel
theorem dL_law_524 : decode cL_law 524 = .ok (.iconst 1, 1) := by decide +kernel
theorem dL_law_525 : decode cL_law 525 = .ok (.iadd, 1) := by decide +kernel
theorem dL_law_526 : decode cL_law 526 = .ok (.iaload, 1) := by decide +kernel
theorem dL_law_527 : decode cL_law 527 = .ok (.invokevirtual 60, 3) := by decide +kernel
theorem dL_law_530 : decode cL_law 530 = .ok (.if_icmp .eq 1008, 3) := by decide +kernel
theorem dL_law_533 : decode cL_law 533 = .ok (.iconst 0, 1) := by decide +kernel
theorem dL_law_534 : decode cL_law 534 = .ok (.ireturn, 1) := by decide +kernel
theorem dL_law_535 : decode cL_law 535 = .ok (.aload_n 1, 1) := by decide +kernel
theorem dL_law_536 : decode cL_law 536 = .ok (.aload_n 0, 1) := by decide +kernel
theorem dL_law_537 : decode cL_law 537 = .ok (.iload_n 3, 1) := by decide +kernel
theorem dL_law_538 : decode cL_law 538 = .ok (.iconst 1, 1) := by decide +kernel
theorem dL_law_539 : decode cL_law 539 = .ok (.iadd, 1) := by decide +kernel
theorem dL_law_540 : decode cL_law 540 = .ok (.iaload, 1) := by decide +kernel
theorem dL_law_541 : decode cL_law 541 = .ok (.aload_n 0, 1) := by decide +kernel
theorem dL_law_542 : decode cL_law 542 = .ok (.iload_n 3, 1) := by decide +kernel
theorem dL_law_543 : decode cL_law 543 = .ok (.iconst 2, 1) := by decide +kernel
theorem dL_law_544 : decode cL_law 544 = .ok (.iadd, 1) := by decide +kernel
theorem dL_law_545 : decode cL_law 545 = .ok (.iaload, 1) := by decide +kernel
theorem dL_law_546 : decode cL_law 546 = .ok (.invokevirtual 61, 3) := by decide +kernel
theorem dL_law_549 : decode cL_law 549 = .ok (.aload_n 2, 1) := by decide +kernel
theorem dL_law_550 : decode cL_law 550 = .ok (.aload_n 0, 1) := by decide +kernel
theorem dL_law_551 : decode cL_law 551 = .ok (.iload_n 3, 1) := by decide +kernel
theorem dL_law_552 : decode cL_law 552 = .ok (.iconst 1, 1) := by decide +kernel
theorem dL_law_553 : decode cL_law 553 = .ok (.iadd, 1) := by decide +kernel
theorem dL_law_554 : decode cL_law 554 = .ok (.iaload, 1) := by decide +kernel
theorem dL_law_555 : decode cL_law 555 = .ok (.aload_n 0, 1) := by decide +kernel
theorem dL_law_556 : decode cL_law 556 = .ok (.iload_n 3, 1) := by decide +kernel
theorem dL_law_557 : decode cL_law 557 = .ok (.iconst 2, 1) := by decide +kernel
theorem dL_law_558 : decode cL_law 558 = .ok (.iadd, 1) := by decide +kernel
theorem dL_law_559 : decode cL_law 559 = .ok (.iaload, 1) := by decide +kernel
theorem dL_law_560 : decode cL_law 560 = .ok (.invokevirtual 65, 3) := by decide +kernel
theorem dL_law_563 : decode cL_law 563 = .ok (.if_icmp .eq 975, 3) := by decide +kernel
theorem dL_law_566 : decode cL_law 566 = .ok (.iconst 0, 1) := by decide +kernel
theorem dL_law_567 : decode cL_law 567 = .ok (.ireturn, 1) := by decide +kernel
theorem dL_law_568 : decode cL_law 568 = .ok (.aload_n 1, 1) := by decide +kernel
theorem dL_law_569 : decode cL_law 569 = .ok (.aload_n 0, 1) := by decide +kernel
theorem dL_law_570 : decode cL_law 570 = .ok (.iload_n 3, 1) := by decide +kernel
theorem dL_law_571 : decode cL_law 571 = .ok (.iconst 1, 1) := by decide +kernel
theorem dL_law_572 : decode cL_law 572 = .ok (.iadd, 1) := by decide +kernel
theorem dL_law_573 : decode cL_law 573 = .ok (.iaload, 1) := by decide +kernel
theorem dL_law_574 : decode cL_law 574 = .ok (.aload_n 0, 1) := by decide +kernel
theorem dL_law_575 : decode cL_law 575 = .ok (.iload_n 3, 1) := by decide +kernel
theorem dL_law_576 : decode cL_law 576 = .ok (.iconst 2, 1) := by decide +kernel
theorem dL_law_577 : decode cL_law 577 = .ok (.iadd, 1) := by decide +kernel
theorem dL_law_578 : decode cL_law 578 = .ok (.iaload, 1) := by decide +kernel
theorem dL_law_579 : decode cL_law 579 = .ok (.invokevirtual 66, 3) := by decide +kernel
theorem dL_law_582 : decode cL_law 582 = .ok (.aload_n 2, 1) := by decide +kernel
theorem dL_law_583 : decode cL_law 583 = .ok (.aload_n 0, 1) := by decide +kernel
theorem dL_law_584 : decode cL_law 584 = .ok (.iload_n 3, 1) := by decide +kernel
theorem dL_law_585 : decode cL_law 585 = .ok (.iconst 1, 1) := by decide +kernel
theorem dL_law_586 : decode cL_law 586 = .ok (.iadd, 1) := by decide +kernel
theorem dL_law_587 : decode cL_law 587 = .ok (.iaload, 1) := by decide +kernel
theorem dL_law_588 : decode cL_law 588 = .ok (.aload_n 0, 1) := by decide +kernel
theorem dL_law_589 : decode cL_law 589 = .ok (.iload_n 3, 1) := by decide +kernel
theorem dL_law_590 : decode cL_law 590 = .ok (.iconst 2, 1) := by decide +kernel
theorem dL_law_591 : decode cL_law 591 = .ok (.iadd, 1) := by decide +kernel
theorem dL_law_592 : decode cL_law 592 = .ok (.iaload, 1) := by decide +kernel
theorem dL_law_593 : decode cL_law 593 = .ok (.invokevirtual 69, 3) := by decide +kernel
theorem dL_law_596 : decode cL_law 596 = .ok (.if_icmp .eq 942, 3) := by decide +kernel
theorem dL_law_599 : decode cL_law 599 = .ok (.iconst 0, 1) := by decide +kernel
theorem dL_law_600 : decode cL_law 600 = .ok (.ireturn, 1) := by decide +kernel
theorem dL_law_601 : decode cL_law 601 = .ok (.aload_n 1, 1) := by decide +kernel
theorem dL_law_602 : decode cL_law 602 = .ok (.aload_n 0, 1) := by decide +kernel
theorem dL_law_603 : decode cL_law 603 = .ok (.iload_n 3, 1) := by decide +kernel
theorem dL_law_604 : decode cL_law 604 = .ok (.iconst 1, 1) := by decide +kernel
theorem dL_law_605 : decode cL_law 605 = .ok (.iadd, 1) := by decide +kernel
theorem dL_law_606 : decode cL_law 606 = .ok (.iaload, 1) := by decide +kernel
theorem dL_law_607 : decode cL_law 607 = .ok (.aload_n 0, 1) := by decide +kernel
theorem dL_law_608 : decode cL_law 608 = .ok (.iload_n 3, 1) := by decide +kernel
theorem dL_law_609 : decode cL_law 609 = .ok (.iconst 2, 1) := by decide +kernel
theorem dL_law_610 : decode cL_law 610 = .ok (.iadd, 1) := by decide +kernel
theorem dL_law_611 : decode cL_law 611 = .ok (.iaload, 1) := by decide +kernel
theorem dL_law_612 : decode cL_law 612 = .ok (.invokevirtual 70, 3) := by decide +kernel
theorem dL_law_615 : decode cL_law 615 = .ok (.aload_n 2, 1) := by decide +kernel
theorem dL_law_616 : decode cL_law 616 = .ok (.aload_n 0, 1) := by decide +kernel
theorem dL_law_617 : decode cL_law 617 = .ok (.iload_n 3, 1) := by decide +kernel
theorem dL_law_618 : decode cL_law 618 = .ok (.iconst 1, 1) := by decide +kernel
theorem dL_law_619 : decode cL_law 619 = .ok (.iadd, 1) := by decide +kernel
theorem dL_law_620 : decode cL_law 620 = .ok (.iaload, 1) := by decide +kernel
theorem dL_law_621 : decode cL_law 621 = .ok (.aload_n 0, 1) := by decide +kernel
theorem dL_law_622 : decode cL_law 622 = .ok (.iload_n 3, 1) := by decide +kernel
theorem dL_law_623 : decode cL_law 623 = .ok (.iconst 2, 1) := by decide +kernel
theorem dL_law_624 : decode cL_law 624 = .ok (.iadd, 1) := by decide +kernel
theorem dL_law_625 : decode cL_law 625 = .ok (.iaload, 1) := by decide +kernel
theorem dL_law_626 : decode cL_law 626 = .ok (.invokevirtual 73, 3) := by decide +kernel
theorem dL_law_629 : decode cL_law 629 = .ok (.if_icmp .eq 909, 3) := by decide +kernel
theorem dL_law_632 : decode cL_law 632 = .ok (.iconst 0, 1) := by decide +kernel
theorem dL_law_633 : decode cL_law 633 = .ok (.ireturn, 1) := by decide +kernel
theorem dL_law_634 : decode cL_law 634 = .ok (.aload_n 1, 1) := by decide +kernel
theorem dL_law_635 : decode cL_law 635 = .ok (.aload_n 0, 1) := by decide +kernel
theorem dL_law_636 : decode cL_law 636 = .ok (.iload_n 3, 1) := by decide +kernel
theorem dL_law_637 : decode cL_law 637 = .ok (.iconst 1, 1) := by decide +kernel
theorem dL_law_638 : decode cL_law 638 = .ok (.iadd, 1) := by decide +kernel
theorem dL_law_639 : decode cL_law 639 = .ok (.iaload, 1) := by decide +kernel
theorem dL_law_640 : decode cL_law 640 = .ok (.aload_n 0, 1) := by decide +kernel
theorem dL_law_641 : decode cL_law 641 = .ok (.iload_n 3, 1) := by decide +kernel
theorem dL_law_642 : decode cL_law 642 = .ok (.iconst 2, 1) := by decide +kernel
theorem dL_law_643 : decode cL_law 643 = .ok (.iadd, 1) := by decide +kernel
theorem dL_law_644 : decode cL_law 644 = .ok (.iaload, 1) := by decide +kernel
theorem dL_law_645 : decode cL_law 645 = .ok (.invokevirtual 74, 3) := by decide +kernel
theorem dL_law_648 : decode cL_law 648 = .ok (.aload_n 2, 1) := by decide +kernel
theorem dL_law_649 : decode cL_law 649 = .ok (.aload_n 0, 1) := by decide +kernel
theorem dL_law_650 : decode cL_law 650 = .ok (.iload_n 3, 1) := by decide +kernel
theorem dL_law_651 : decode cL_law 651 = .ok (.iconst 1, 1) := by decide +kernel
theorem dL_law_652 : decode cL_law 652 = .ok (.iadd, 1) := by decide +kernel
theorem dL_law_653 : decode cL_law 653 = .ok (.iaload, 1) := by decide +kernel
theorem dL_law_654 : decode cL_law 654 = .ok (.aload_n 0, 1) := by decide +kernel
theorem dL_law_655 : decode cL_law 655 = .ok (.iload_n 3, 1) := by decide +kernel
theorem dL_law_656 : decode cL_law 656 = .ok (.iconst 2, 1) := by decide +kernel
theorem dL_law_657 : decode cL_law 657 = .ok (.iadd, 1) := by decide +kernel
theorem dL_law_658 : decode cL_law 658 = .ok (.iaload, 1) := by decide +kernel
theorem dL_law_659 : decode cL_law 659 = .ok (.invokevirtual 77, 3) := by decide +kernel
theorem dL_law_662 : decode cL_law 662 = .ok (.if_icmp .eq 876, 3) := by decide +kernel
theorem dL_law_665 : decode cL_law 665 = .ok (.iconst 0, 1) := by decide +kernel
theorem dL_law_666 : decode cL_law 666 = .ok (.ireturn, 1) := by decide +kernel
theorem dL_law_667 : decode cL_law 667 = .ok (.aload_n 1, 1) := by decide +kernel
theorem dL_law_668 : decode cL_law 668 = .ok (.aload_n 0, 1) := by decide +kernel
theorem dL_law_669 : decode cL_law 669 = .ok (.iload_n 3, 1) := by decide +kernel
theorem dL_law_670 : decode cL_law 670 = .ok (.iconst 1, 1) := by decide +kernel
theorem dL_law_671 : decode cL_law 671 = .ok (.iadd, 1) := by decide +kernel
theorem dL_law_672 : decode cL_law 672 = .ok (.iaload, 1) := by decide +kernel
theorem dL_law_673 : decode cL_law 673 = .ok (.invokevirtual 78, 3) := by decide +kernel
theorem dL_law_676 : decode cL_law 676 = .ok (.aload_n 2, 1) := by decide +kernel
theorem dL_law_677 : decode cL_law 677 = .ok (.aload_n 0, 1) := by decide +kernel
theorem dL_law_678 : decode cL_law 678 = .ok (.iload_n 3, 1) := by decide +kernel
theorem dL_law_679 : decode cL_law 679 = .ok (.iconst 1, 1) := by decide +kernel
theorem dL_law_680 : decode cL_law 680 = .ok (.iadd, 1) := by decide +kernel
theorem dL_law_681 : decode cL_law 681 = .ok (.iaload, 1) := by decide +kernel
theorem dL_law_682 : decode cL_law 682 = .ok (.invokevirtual 81, 3) := by decide +kernel
theorem dL_law_685 : decode cL_law 685 = .ok (.if_icmp .eq 853, 3) := by decide +kernel
theorem dL_law_688 : decode cL_law 688 = .ok (.iconst 0, 1) := by decide +kernel
theorem dL_law_689 : decode cL_law 689 = .ok (.ireturn, 1) := by decide +kernel
theorem dL_law_690 : decode cL_law 690 = .ok (.aload_n 1, 1) := by decide +kernel
theorem dL_law_691 : decode cL_law 691 = .ok (.aload_n 0, 1) := by decide +kernel
theorem dL_law_692 : decode cL_law 692 = .ok (.iload_n 3, 1) := by decide +kernel
theorem dL_law_693 : decode cL_law 693 = .ok (.iconst 1, 1) := by decide +kernel
theorem dL_law_694 : decode cL_law 694 = .ok (.iadd, 1) := by decide +kernel
theorem dL_law_695 : decode cL_law 695 = .ok (.iaload, 1) := by decide +kernel
theorem dL_law_696 : decode cL_law 696 = .ok (.aload_n 0, 1) := by decide +kernel
theorem dL_law_697 : decode cL_law 697 = .ok (.iload_n 3, 1) := by decide +kernel
theorem dL_law_698 : decode cL_law 698 = .ok (.iconst 2, 1) := by decide +kernel
theorem dL_law_699 : decode cL_law 699 = .ok (.iadd, 1) := by decide +kernel
theorem dL_law_700 : decode cL_law 700 = .ok (.iaload, 1) := by decide +kernel
theorem dL_law_701 : decode cL_law 701 = .ok (.invokevirtual 82, 3) := by decide +kernel
theorem dL_law_704 : decode cL_law 704 = .ok (.aload_n 2, 1) := by decide +kernel
theorem dL_law_705 : decode cL_law 705 = .ok (.aload_n 0, 1) := by decide +kernel
theorem dL_law_706 : decode cL_law 706 = .ok (.iload_n 3, 1) := by decide +kernel
theorem dL_law_707 : decode cL_law 707 = .ok (.iconst 1, 1) := by decide +kernel
theorem dL_law_708 : decode cL_law 708 = .ok (.iadd, 1) := by decide +kernel
theorem dL_law_709 : decode cL_law 709 = .ok (.iaload, 1) := by decide +kernel
theorem dL_law_710 : decode cL_law 710 = .ok (.aload_n 0, 1) := by decide +kernel
theorem dL_law_711 : decode cL_law 711 = .ok (.iload_n 3, 1) := by decide +kernel
theorem dL_law_712 : decode cL_law 712 = .ok (.iconst 2, 1) := by decide +kernel
theorem dL_law_713 : decode cL_law 713 = .ok (.iadd, 1) := by decide +kernel
theorem dL_law_714 : decode cL_law 714 = .ok (.iaload, 1) := by decide +kernel
theorem dL_law_715 : decode cL_law 715 = .ok (.invokevirtual 85, 3) := by decide +kernel
theorem dL_law_718 : decode cL_law 718 = .ok (.if_icmp .eq 820, 3) := by decide +kernel
theorem dL_law_721 : decode cL_law 721 = .ok (.iconst 0, 1) := by decide +kernel
theorem dL_law_722 : decode cL_law 722 = .ok (.ireturn, 1) := by decide +kernel
theorem dL_law_723 : decode cL_law 723 = .ok (.aload_n 1, 1) := by decide +kernel
theorem dL_law_724 : decode cL_law 724 = .ok (.aload_n 0, 1) := by decide +kernel
theorem dL_law_725 : decode cL_law 725 = .ok (.iload_n 3, 1) := by decide +kernel
theorem dL_law_726 : decode cL_law 726 = .ok (.iconst 1, 1) := by decide +kernel
theorem dL_law_727 : decode cL_law 727 = .ok (.iadd, 1) := by decide +kernel
theorem dL_law_728 : decode cL_law 728 = .ok (.iaload, 1) := by decide +kernel
theorem dL_law_729 : decode cL_law 729 = .ok (.aload_n 0, 1) := by decide +kernel
theorem dL_law_730 : decode cL_law 730 = .ok (.iload_n 3, 1) := by decide +kernel
theorem dL_law_731 : decode cL_law 731 = .ok (.iconst 2, 1) := by decide +kernel
theorem dL_law_732 : decode cL_law 732 = .ok (.iadd, 1) := by decide +kernel
theorem dL_law_733 : decode cL_law 733 = .ok (.iaload, 1) := by decide +kernel
theorem dL_law_734 : decode cL_law 734 = .ok (.invokevirtual 86, 3) := by decide +kernel
theorem dL_law_737 : decode cL_law 737 = .ok (.aload_n 2, 1) := by decide +kernel
theorem dL_law_738 : decode cL_law 738 = .ok (.aload_n 0, 1) := by decide +kernel
theorem dL_law_739 : decode cL_law 739 = .ok (.iload_n 3, 1) := by decide +kernel
theorem dL_law_740 : decode cL_law 740 = .ok (.iconst 1, 1) := by decide +kernel
theorem dL_law_741 : decode cL_law 741 = .ok (.iadd, 1) := by decide +kernel
theorem dL_law_742 : decode cL_law 742 = .ok (.iaload, 1) := by decide +kernel
theorem dL_law_743 : decode cL_law 743 = .ok (.aload_n 0, 1) := by decide +kernel
theorem dL_law_744 : decode cL_law 744 = .ok (.iload_n 3, 1) := by decide +kernel
theorem dL_law_745 : decode cL_law 745 = .ok (.iconst 2, 1) := by decide +kernel
theorem dL_law_746 : decode cL_law 746 = .ok (.iadd, 1) := by decide +kernel
theorem dL_law_747 : decode cL_law 747 = .ok (.iaload, 1) := by decide +kernel
theorem dL_law_748 : decode cL_law 748 = .ok (.invokevirtual 89, 3) := by decide +kernel
theorem dL_law_751 : decode cL_law 751 = .ok (.if_icmp .eq 787, 3) := by decide +kernel
theorem dL_law_754 : decode cL_law 754 = .ok (.iconst 0, 1) := by decide +kernel
theorem dL_law_755 : decode cL_law 755 = .ok (.ireturn, 1) := by decide +kernel
theorem dL_law_756 : decode cL_law 756 = .ok (.aload_n 1, 1) := by decide +kernel
theorem dL_law_757 : decode cL_law 757 = .ok (.aload_n 0, 1) := by decide +kernel
theorem dL_law_758 : decode cL_law 758 = .ok (.iload_n 3, 1) := by decide +kernel
theorem dL_law_759 : decode cL_law 759 = .ok (.iconst 1, 1) := by decide +kernel
theorem dL_law_760 : decode cL_law 760 = .ok (.iadd, 1) := by decide +kernel
theorem dL_law_761 : decode cL_law 761 = .ok (.iaload, 1) := by decide +kernel
theorem dL_law_762 : decode cL_law 762 = .ok (.invokevirtual 90, 3) := by decide +kernel
theorem dL_law_765 : decode cL_law 765 = .ok (.aload_n 2, 1) := by decide +kernel
theorem dL_law_766 : decode cL_law 766 = .ok (.aload_n 0, 1) := by decide +kernel
theorem dL_law_767 : decode cL_law 767 = .ok (.iload_n 3, 1) := by decide +kernel
theorem dL_law_768 : decode cL_law 768 = .ok (.iconst 1, 1) := by decide +kernel
theorem dL_law_769 : decode cL_law 769 = .ok (.iadd, 1) := by decide +kernel
theorem dL_law_770 : decode cL_law 770 = .ok (.iaload, 1) := by decide +kernel
theorem dL_law_771 : decode cL_law 771 = .ok (.invokevirtual 93, 3) := by decide +kernel
theorem dL_law_774 : decode cL_law 774 = .ok (.if_icmp .eq 764, 3) := by decide +kernel
theorem dL_law_777 : decode cL_law 777 = .ok (.iconst 0, 1) := by decide +kernel
theorem dL_law_778 : decode cL_law 778 = .ok (.ireturn, 1) := by decide +kernel
theorem dL_law_779 : decode cL_law 779 = .ok (.aload_n 1, 1) := by decide +kernel
theorem dL_law_780 : decode cL_law 780 = .ok (.aload_n 0, 1) := by decide +kernel
theorem dL_law_781 : decode cL_law 781 = .ok (.iload_n 3, 1) := by decide +kernel
theorem dL_law_782 : decode cL_law 782 = .ok (.iconst 1, 1) := by decide +kernel
theorem dL_law_783 : decode cL_law 783 = .ok (.iadd, 1) := by decide +kernel
theorem dL_law_784 : decode cL_law 784 = .ok (.iaload, 1) := by decide +kernel
theorem dL_law_785 : decode cL_law 785 = .ok (.aload_n 0, 1) := by decide +kernel
theorem dL_law_786 : decode cL_law 786 = .ok (.iload_n 3, 1) := by decide +kernel
theorem dL_law_787 : decode cL_law 787 = .ok (.iconst 2, 1) := by decide +kernel
theorem dL_law_788 : decode cL_law 788 = .ok (.iadd, 1) := by decide +kernel
theorem dL_law_789 : decode cL_law 789 = .ok (.iaload, 1) := by decide +kernel
theorem dL_law_790 : decode cL_law 790 = .ok (.invokevirtual 94, 3) := by decide +kernel
theorem dL_law_793 : decode cL_law 793 = .ok (.aload_n 2, 1) := by decide +kernel
theorem dL_law_794 : decode cL_law 794 = .ok (.aload_n 0, 1) := by decide +kernel
theorem dL_law_795 : decode cL_law 795 = .ok (.iload_n 3, 1) := by decide +kernel
theorem dL_law_796 : decode cL_law 796 = .ok (.iconst 1, 1) := by decide +kernel
theorem dL_law_797 : decode cL_law 797 = .ok (.iadd, 1) := by decide +kernel
theorem dL_law_798 : decode cL_law 798 = .ok (.iaload, 1) := by decide +kernel
theorem dL_law_799 : decode cL_law 799 = .ok (.aload_n 0, 1) := by decide +kernel
theorem dL_law_800 : decode cL_law 800 = .ok (.iload_n 3, 1) := by decide +kernel
theorem dL_law_801 : decode cL_law 801 = .ok (.iconst 2, 1) := by decide +kernel
theorem dL_law_802 : decode cL_law 802 = .ok (.iadd, 1) := by decide +kernel
theorem dL_law_803 : decode cL_law 803 = .ok (.iaload, 1) := by decide +kernel
theorem dL_law_804 : decode cL_law 804 = .ok (.invokevirtual 97, 3) := by decide +kernel
theorem dL_law_807 : decode cL_law 807 = .ok (.if_icmp .eq 731, 3) := by decide +kernel
theorem dL_law_810 : decode cL_law 810 = .ok (.iconst 0, 1) := by decide +kernel
theorem dL_law_811 : decode cL_law 811 = .ok (.ireturn, 1) := by decide +kernel
theorem dL_law_812 : decode cL_law 812 = .ok (.aload_n 1, 1) := by decide +kernel
theorem dL_law_813 : decode cL_law 813 = .ok (.aload_n 0, 1) := by decide +kernel
theorem dL_law_814 : decode cL_law 814 = .ok (.iload_n 3, 1) := by decide +kernel
theorem dL_law_815 : decode cL_law 815 = .ok (.iconst 1, 1) := by decide +kernel
theorem dL_law_816 : decode cL_law 816 = .ok (.iadd, 1) := by decide +kernel
theorem dL_law_817 : decode cL_law 817 = .ok (.iaload, 1) := by decide +kernel
theorem dL_law_818 : decode cL_law 818 = .ok (.aload_n 0, 1) := by decide +kernel
theorem dL_law_819 : decode cL_law 819 = .ok (.iload_n 3, 1) := by decide +kernel
theorem dL_law_820 : decode cL_law 820 = .ok (.iconst 2, 1) := by decide +kernel
theorem dL_law_821 : decode cL_law 821 = .ok (.iadd, 1) := by decide +kernel
theorem dL_law_822 : decode cL_law 822 = .ok (.iaload, 1) := by decide +kernel
theorem dL_law_823 : decode cL_law 823 = .ok (.aload_n 0, 1) := by decide +kernel
theorem dL_law_824 : decode cL_law 824 = .ok (.iload_n 3, 1) := by decide +kernel
theorem dL_law_825 : decode cL_law 825 = .ok (.iconst 3, 1) := by decide +kernel
theorem dL_law_826 : decode cL_law 826 = .ok (.iadd, 1) := by decide +kernel
theorem dL_law_827 : decode cL_law 827 = .ok (.iaload, 1) := by decide +kernel
theorem dL_law_828 : decode cL_law 828 = .ok (.invokevirtual 98, 3) := by decide +kernel
theorem dL_law_831 : decode cL_law 831 = .ok (.aload_n 2, 1) := by decide +kernel
theorem dL_law_832 : decode cL_law 832 = .ok (.aload_n 0, 1) := by decide +kernel
theorem dL_law_833 : decode cL_law 833 = .ok (.iload_n 3, 1) := by decide +kernel
theorem dL_law_834 : decode cL_law 834 = .ok (.iconst 1, 1) := by decide +kernel
theorem dL_law_835 : decode cL_law 835 = .ok (.iadd, 1) := by decide +kernel
theorem dL_law_836 : decode cL_law 836 = .ok (.iaload, 1) := by decide +kernel
theorem dL_law_837 : decode cL_law 837 = .ok (.aload_n 0, 1) := by decide +kernel
theorem dL_law_838 : decode cL_law 838 = .ok (.iload_n 3, 1) := by decide +kernel
theorem dL_law_839 : decode cL_law 839 = .ok (.iconst 2, 1) := by decide +kernel
theorem dL_law_840 : decode cL_law 840 = .ok (.iadd, 1) := by decide +kernel
theorem dL_law_841 : decode cL_law 841 = .ok (.iaload, 1) := by decide +kernel
theorem dL_law_842 : decode cL_law 842 = .ok (.aload_n 0, 1) := by decide +kernel
theorem dL_law_843 : decode cL_law 843 = .ok (.iload_n 3, 1) := by decide +kernel
theorem dL_law_844 : decode cL_law 844 = .ok (.iconst 3, 1) := by decide +kernel
theorem dL_law_845 : decode cL_law 845 = .ok (.iadd, 1) := by decide +kernel
theorem dL_law_846 : decode cL_law 846 = .ok (.iaload, 1) := by decide +kernel
theorem dL_law_847 : decode cL_law 847 = .ok (.invokevirtual 101, 3) := by decide +kernel
theorem dL_law_850 : decode cL_law 850 = .ok (.if_icmp .eq 688, 3) := by decide +kernel
theorem dL_law_853 : decode cL_law 853 = .ok (.iconst 0, 1) := by decide +kernel
theorem dL_law_854 : decode cL_law 854 = .ok (.ireturn, 1) := by decide +kernel
theorem dL_law_855 : decode cL_law 855 = .ok (.aload_n 1, 1) := by decide +kernel
theorem dL_law_856 : decode cL_law 856 = .ok (.aload_n 0, 1) := by decide +kernel
theorem dL_law_857 : decode cL_law 857 = .ok (.iload_n 3, 1) := by decide +kernel
theorem dL_law_858 : decode cL_law 858 = .ok (.iconst 1, 1) := by decide +kernel
theorem dL_law_859 : decode cL_law 859 = .ok (.iadd, 1) := by decide +kernel
theorem dL_law_860 : decode cL_law 860 = .ok (.iaload, 1) := by decide +kernel
theorem dL_law_861 : decode cL_law 861 = .ok (.aload_n 0, 1) := by decide +kernel
theorem dL_law_862 : decode cL_law 862 = .ok (.iload_n 3, 1) := by decide +kernel
theorem dL_law_863 : decode cL_law 863 = .ok (.iconst 2, 1) := by decide +kernel
theorem dL_law_864 : decode cL_law 864 = .ok (.iadd, 1) := by decide +kernel
theorem dL_law_865 : decode cL_law 865 = .ok (.iaload, 1) := by decide +kernel
theorem dL_law_866 : decode cL_law 866 = .ok (.invokevirtual 102, 3) := by decide +kernel
theorem dL_law_869 : decode cL_law 869 = .ok (.aload_n 2, 1) := by decide +kernel
theorem dL_law_870 : decode cL_law 870 = .ok (.aload_n 0, 1) := by decide +kernel
theorem dL_law_871 : decode cL_law 871 = .ok (.iload_n 3, 1) := by decide +kernel
theorem dL_law_872 : decode cL_law 872 = .ok (.iconst 1, 1) := by decide +kernel
theorem dL_law_873 : decode cL_law 873 = .ok (.iadd, 1) := by decide +kernel
theorem dL_law_874 : decode cL_law 874 = .ok (.iaload, 1) := by decide +kernel
theorem dL_law_875 : decode cL_law 875 = .ok (.aload_n 0, 1) := by decide +kernel
theorem dL_law_876 : decode cL_law 876 = .ok (.iload_n 3, 1) := by decide +kernel
theorem dL_law_877 : decode cL_law 877 = .ok (.iconst 2, 1) := by decide +kernel
theorem dL_law_878 : decode cL_law 878 = .ok (.iadd, 1) := by decide +kernel
theorem dL_law_879 : decode cL_law 879 = .ok (.iaload, 1) := by decide +kernel
theorem dL_law_880 : decode cL_law 880 = .ok (.invokevirtual 105, 3) := by decide +kernel
theorem dL_law_883 : decode cL_law 883 = .ok (.if_icmp .eq 655, 3) := by decide +kernel
theorem dL_law_886 : decode cL_law 886 = .ok (.iconst 0, 1) := by decide +kernel
theorem dL_law_887 : decode cL_law 887 = .ok (.ireturn, 1) := by decide +kernel
theorem dL_law_888 : decode cL_law 888 = .ok (.aload_n 1, 1) := by decide +kernel
theorem dL_law_889 : decode cL_law 889 = .ok (.invokevirtual 106, 3) := by decide +kernel
theorem dL_law_892 : decode cL_law 892 = .ok (.aload_n 2, 1) := by decide +kernel
theorem dL_law_893 : decode cL_law 893 = .ok (.invokevirtual 109, 3) := by decide +kernel
theorem dL_law_896 : decode cL_law 896 = .ok (.if_icmp .eq 642, 3) := by decide +kernel
theorem dL_law_899 : decode cL_law 899 = .ok (.iconst 0, 1) := by decide +kernel
theorem dL_law_900 : decode cL_law 900 = .ok (.ireturn, 1) := by decide +kernel
theorem dL_law_901 : decode cL_law 901 = .ok (.aload_n 1, 1) := by decide +kernel
theorem dL_law_902 : decode cL_law 902 = .ok (.aload_n 0, 1) := by decide +kernel
theorem dL_law_903 : decode cL_law 903 = .ok (.iload_n 3, 1) := by decide +kernel
theorem dL_law_904 : decode cL_law 904 = .ok (.iconst 1, 1) := by decide +kernel
theorem dL_law_905 : decode cL_law 905 = .ok (.iadd, 1) := by decide +kernel
theorem dL_law_906 : decode cL_law 906 = .ok (.iaload, 1) := by decide +kernel
theorem dL_law_907 : decode cL_law 907 = .ok (.aload_n 0, 1) := by decide +kernel
theorem dL_law_908 : decode cL_law 908 = .ok (.iload_n 3, 1) := by decide +kernel
theorem dL_law_909 : decode cL_law 909 = .ok (.iconst 2, 1) := by decide +kernel
theorem dL_law_910 : decode cL_law 910 = .ok (.iadd, 1) := by decide +kernel
theorem dL_law_911 : decode cL_law 911 = .ok (.iaload, 1) := by decide +kernel
theorem dL_law_912 : decode cL_law 912 = .ok (.aload_n 0, 1) := by decide +kernel
theorem dL_law_913 : decode cL_law 913 = .ok (.iload_n 3, 1) := by decide +kernel
theorem dL_law_914 : decode cL_law 914 = .ok (.iconst 3, 1) := by decide +kernel
theorem dL_law_915 : decode cL_law 915 = .ok (.iadd, 1) := by decide +kernel
theorem dL_law_916 : decode cL_law 916 = .ok (.iaload, 1) := by decide +kernel
theorem dL_law_917 : decode cL_law 917 = .ok (.invokevirtual 110, 3) := by decide +kernel
theorem dL_law_920 : decode cL_law 920 = .ok (.aload_n 2, 1) := by decide +kernel
theorem dL_law_921 : decode cL_law 921 = .ok (.aload_n 0, 1) := by decide +kernel
theorem dL_law_922 : decode cL_law 922 = .ok (.iload_n 3, 1) := by decide +kernel
theorem dL_law_923 : decode cL_law 923 = .ok (.iconst 1, 1) := by decide +kernel
theorem dL_law_924 : decode cL_law 924 = .ok (.iadd, 1) := by decide +kernel
theorem dL_law_925 : decode cL_law 925 = .ok (.iaload, 1) := by decide +kernel
theorem dL_law_926 : decode cL_law 926 = .ok (.aload_n 0, 1) := by decide +kernel
theorem dL_law_927 : decode cL_law 927 = .ok (.iload_n 3, 1) := by decide +kernel
theorem dL_law_928 : decode cL_law 928 = .ok (.iconst 2, 1) := by decide +kernel
theorem dL_law_929 : decode cL_law 929 = .ok (.iadd, 1) := by decide +kernel
theorem dL_law_930 : decode cL_law 930 = .ok (.iaload, 1) := by decide +kernel
theorem dL_law_931 : decode cL_law 931 = .ok (.aload_n 0, 1) := by decide +kernel
theorem dL_law_932 : decode cL_law 932 = .ok (.iload_n 3, 1) := by decide +kernel
theorem dL_law_933 : decode cL_law 933 = .ok (.iconst 3, 1) := by decide +kernel
theorem dL_law_934 : decode cL_law 934 = .ok (.iadd, 1) := by decide +kernel
theorem dL_law_935 : decode cL_law 935 = .ok (.iaload, 1) := by decide +kernel
theorem dL_law_936 : decode cL_law 936 = .ok (.invokevirtual 113, 3) := by decide +kernel
theorem dL_law_939 : decode cL_law 939 = .ok (.if_icmp .eq 599, 3) := by decide +kernel
theorem dL_law_942 : decode cL_law 942 = .ok (.iconst 0, 1) := by decide +kernel
theorem dL_law_943 : decode cL_law 943 = .ok (.ireturn, 1) := by decide +kernel
theorem dL_law_944 : decode cL_law 944 = .ok (.aload_n 1, 1) := by decide +kernel
theorem dL_law_945 : decode cL_law 945 = .ok (.aload_n 0, 1) := by decide +kernel
theorem dL_law_946 : decode cL_law 946 = .ok (.iload_n 3, 1) := by decide +kernel
theorem dL_law_947 : decode cL_law 947 = .ok (.iconst 1, 1) := by decide +kernel
theorem dL_law_948 : decode cL_law 948 = .ok (.iadd, 1) := by decide +kernel
theorem dL_law_949 : decode cL_law 949 = .ok (.iaload, 1) := by decide +kernel
theorem dL_law_950 : decode cL_law 950 = .ok (.aload_n 0, 1) := by decide +kernel
theorem dL_law_951 : decode cL_law 951 = .ok (.iload_n 3, 1) := by decide +kernel
theorem dL_law_952 : decode cL_law 952 = .ok (.iconst 2, 1) := by decide +kernel
theorem dL_law_953 : decode cL_law 953 = .ok (.iadd, 1) := by decide +kernel
theorem dL_law_954 : decode cL_law 954 = .ok (.iaload, 1) := by decide +kernel
theorem dL_law_955 : decode cL_law 955 = .ok (.invokevirtual 114, 3) := by decide +kernel
theorem dL_law_958 : decode cL_law 958 = .ok (.aload_n 2, 1) := by decide +kernel
theorem dL_law_959 : decode cL_law 959 = .ok (.aload_n 0, 1) := by decide +kernel
theorem dL_law_960 : decode cL_law 960 = .ok (.iload_n 3, 1) := by decide +kernel
theorem dL_law_961 : decode cL_law 961 = .ok (.iconst 1, 1) := by decide +kernel
theorem dL_law_962 : decode cL_law 962 = .ok (.iadd, 1) := by decide +kernel
theorem dL_law_963 : decode cL_law 963 = .ok (.iaload, 1) := by decide +kernel
theorem dL_law_964 : decode cL_law 964 = .ok (.aload_n 0, 1) := by decide +kernel
theorem dL_law_965 : decode cL_law 965 = .ok (.iload_n 3, 1) := by decide +kernel
theorem dL_law_966 : decode cL_law 966 = .ok (.iconst 2, 1) := by decide +kernel
theorem dL_law_967 : decode cL_law 967 = .ok (.iadd, 1) := by decide +kernel
theorem dL_law_968 : decode cL_law 968 = .ok (.iaload, 1) := by decide +kernel
theorem dL_law_969 : decode cL_law 969 = .ok (.invokevirtual 117, 3) := by decide +kernel
theorem dL_law_972 : decode cL_law 972 = .ok (.if_icmp .eq 566, 3) := by decide +kernel
theorem dL_law_975 : decode cL_law 975 = .ok (.iconst 0, 1) := by decide +kernel
theorem dL_law_976 : decode cL_law 976 = .ok (.ireturn, 1) := by decide +kernel
theorem dL_law_977 : decode cL_law 977 = .ok (.aload_n 1, 1) := by decide +kernel
theorem dL_law_978 : decode cL_law 978 = .ok (.aload_n 0, 1) := by decide +kernel
theorem dL_law_979 : decode cL_law 979 = .ok (.iload_n 3, 1) := by decide +kernel
theorem dL_law_980 : decode cL_law 980 = .ok (.iconst 1, 1) := by decide +kernel
theorem dL_law_981 : decode cL_law 981 = .ok (.iadd, 1) := by decide +kernel
theorem dL_law_982 : decode cL_law 982 = .ok (.iaload, 1) := by decide +kernel
theorem dL_law_983 : decode cL_law 983 = .ok (.aload_n 0, 1) := by decide +kernel
theorem dL_law_984 : decode cL_law 984 = .ok (.iload_n 3, 1) := by decide +kernel
theorem dL_law_985 : decode cL_law 985 = .ok (.iconst 2, 1) := by decide +kernel
theorem dL_law_986 : decode cL_law 986 = .ok (.iadd, 1) := by decide +kernel
theorem dL_law_987 : decode cL_law 987 = .ok (.iaload, 1) := by decide +kernel
theorem dL_law_988 : decode cL_law 988 = .ok (.invokevirtual 118, 3) := by decide +kernel
theorem dL_law_991 : decode cL_law 991 = .ok (.aload_n 2, 1) := by decide +kernel
theorem dL_law_992 : decode cL_law 992 = .ok (.aload_n 0, 1) := by decide +kernel
theorem dL_law_993 : decode cL_law 993 = .ok (.iload_n 3, 1) := by decide +kernel
theorem dL_law_994 : decode cL_law 994 = .ok (.iconst 1, 1) := by decide +kernel
theorem dL_law_995 : decode cL_law 995 = .ok (.iadd, 1) := by decide +kernel
theorem dL_law_996 : decode cL_law 996 = .ok (.iaload, 1) := by decide +kernel
theorem dL_law_997 : decode cL_law 997 = .ok (.aload_n 0, 1) := by decide +kernel
theorem dL_law_998 : decode cL_law 998 = .ok (.iload_n 3, 1) := by decide +kernel
theorem dL_law_999 : decode cL_law 999 = .ok (.iconst 2, 1) := by decide +kernel
theorem dL_law_1000 : decode cL_law 1000 = .ok (.iadd, 1) := by decide +kernel
theorem dL_law_1001 : decode cL_law 1001 = .ok (.iaload, 1) := by decide +kernel
theorem dL_law_1002 : decode cL_law 1002 = .ok (.invokevirtual 121, 3) := by decide +kernel
theorem dL_law_1005 : decode cL_law 1005 = .ok (.if_icmp .eq 533, 3) := by decide +kernel
theorem dL_law_1008 : decode cL_law 1008 = .ok (.iconst 0, 1) := by decide +kernel
theorem dL_law_1009 : decode cL_law 1009 = .ok (.ireturn, 1) := by decide +kernel
theorem dL_law_1010 : decode cL_law 1010 = .ok (.aload_n 1, 1) := by decide +kernel
theorem dL_law_1011 : decode cL_law 1011 = .ok (.aload_n 0, 1) := by decide +kernel
theorem dL_law_1012 : decode cL_law 1012 = .ok (.iload_n 3, 1) := by decide +kernel
theorem dL_law_1013 : decode cL_law 1013 = .ok (.iconst 1, 1) := by decide +kernel
theorem dL_law_1014 : decode cL_law 1014 = .ok (.iadd, 1) := by decide +kernel
theorem dL_law_1015 : decode cL_law 1015 = .ok (.iaload, 1) := by decide +kernel
theorem dL_law_1016 : decode cL_law 1016 = .ok (.invokevirtual 122, 3) := by decide +kernel
theorem dL_law_1019 : decode cL_law 1019 = .ok (.aload_n 2, 1) := by decide +kernel
theorem dL_law_1020 : decode cL_law 1020 = .ok (.aload_n 0, 1) := by decide +kernel
theorem dL_law_1021 : decode cL_law 1021 = .ok (.iload_n 3, 1) := by decide +kernel
theorem dL_law_1022 : decode cL_law 1022 = .ok (.iconst 1, 1) := by decide +kernel
theorem dL_law_1023 : decode cL_law 1023 = .ok (.iadd, 1) := by decide +kernel
theorem dL_law_1024 : decode cL_law 1024 = .ok (.iaload, 1) := by decide +kernel
theorem dL_law_1025 : decode cL_law 1025 = .ok (.invokevirtual 125, 3) := by decide +kernel
theorem dL_law_1028 : decode cL_law 1028 = .ok (.if_icmp .eq 510, 3) := by decide +kernel
theorem dL_law_1031 : decode cL_law 1031 = .ok (.iconst 0, 1) := by decide +kernel
theorem dL_law_1032 : decode cL_law 1032 = .ok (.ireturn, 1) := by decide +kernel
theorem dL_law_1033 : decode cL_law 1033 = .ok (.aload_n 1, 1) := by decide +kernel
theorem dL_law_1034 : decode cL_law 1034 = .ok (.aload_n 0, 1) := by decide +kernel
theorem dL_law_1035 : decode cL_law 1035 = .ok (.iload_n 3, 1) := by decide +kernel
theorem dL_law_1036 : decode cL_law 1036 = .ok (.iconst 1, 1) := by decide +kernel
theorem dL_law_1037 : decode cL_law 1037 = .ok (.iadd, 1) := by decide +kernel
theorem dL_law_1038 : decode cL_law 1038 = .ok (.iaload, 1) := by decide +kernel
theorem dL_law_1039 : decode cL_law 1039 = .ok (.aload_n 0, 1) := by decide +kernel
theorem dL_law_1040 : decode cL_law 1040 = .ok (.iload_n 3, 1) := by decide +kernel
theorem dL_law_1041 : decode cL_law 1041 = .ok (.iconst 2, 1) := by decide +kernel
theorem dL_law_1042 : decode cL_law 1042 = .ok (.iadd, 1) := by decide +kernel
theorem dL_law_1043 : decode cL_law 1043 = .ok (.iaload, 1) := by decide +kernel
theorem dL_law_1044 : decode cL_law 1044 = .ok (.aload_n 0, 1) := by decide +kernel
theorem dL_law_1045 : decode cL_law 1045 = .ok (.iload_n 3, 1) := by decide +kernel
theorem dL_law_1046 : decode cL_law 1046 = .ok (.iconst 3, 1) := by decide +kernel
theorem dL_law_1047 : decode cL_law 1047 = .ok (.iadd, 1) := by decide +kernel
theorem dL_law_1048 : decode cL_law 1048 = .ok (.iaload, 1) := by decide +kernel
theorem dL_law_1049 : decode cL_law 1049 = .ok (.aload_n 0, 1) := by decide +kernel
theorem dL_law_1050 : decode cL_law 1050 = .ok (.iload_n 3, 1) := by decide +kernel
theorem dL_law_1051 : decode cL_law 1051 = .ok (.iconst 4, 1) := by decide +kernel
theorem dL_law_1052 : decode cL_law 1052 = .ok (.iadd, 1) := by decide +kernel
theorem dL_law_1053 : decode cL_law 1053 = .ok (.iaload, 1) := by decide +kernel
theorem dL_law_1054 : decode cL_law 1054 = .ok (.aload_n 0, 1) := by decide +kernel
theorem dL_law_1055 : decode cL_law 1055 = .ok (.iload_n 3, 1) := by decide +kernel
theorem dL_law_1056 : decode cL_law 1056 = .ok (.iconst 5, 1) := by decide +kernel
theorem dL_law_1057 : decode cL_law 1057 = .ok (.iadd, 1) := by decide +kernel
theorem dL_law_1058 : decode cL_law 1058 = .ok (.iaload, 1) := by decide +kernel
theorem dL_law_1059 : decode cL_law 1059 = .ok (.aload_n 0, 1) := by decide +kernel
theorem dL_law_1060 : decode cL_law 1060 = .ok (.iload_n 3, 1) := by decide +kernel
theorem dL_law_1061 : decode cL_law 1061 = .ok (.bipush 6, 2) := by decide +kernel
theorem dL_law_1063 : decode cL_law 1063 = .ok (.iadd, 1) := by decide +kernel
theorem dL_law_1064 : decode cL_law 1064 = .ok (.iaload, 1) := by decide +kernel
theorem dL_law_1065 : decode cL_law 1065 = .ok (.invokevirtual 126, 3) := by decide +kernel
theorem dL_law_1068 : decode cL_law 1068 = .ok (.aload_n 2, 1) := by decide +kernel
theorem dL_law_1069 : decode cL_law 1069 = .ok (.aload_n 0, 1) := by decide +kernel
theorem dL_law_1070 : decode cL_law 1070 = .ok (.iload_n 3, 1) := by decide +kernel
theorem dL_law_1071 : decode cL_law 1071 = .ok (.iconst 1, 1) := by decide +kernel
theorem dL_law_1072 : decode cL_law 1072 = .ok (.iadd, 1) := by decide +kernel
theorem dL_law_1073 : decode cL_law 1073 = .ok (.iaload, 1) := by decide +kernel
theorem dL_law_1074 : decode cL_law 1074 = .ok (.aload_n 0, 1) := by decide +kernel
theorem dL_law_1075 : decode cL_law 1075 = .ok (.iload_n 3, 1) := by decide +kernel
theorem dL_law_1076 : decode cL_law 1076 = .ok (.iconst 2, 1) := by decide +kernel
theorem dL_law_1077 : decode cL_law 1077 = .ok (.iadd, 1) := by decide +kernel
theorem dL_law_1078 : decode cL_law 1078 = .ok (.iaload, 1) := by decide +kernel
theorem dL_law_1079 : decode cL_law 1079 = .ok (.aload_n 0, 1) := by decide +kernel
theorem dL_law_1080 : decode cL_law 1080 = .ok (.iload_n 3, 1) := by decide +kernel
theorem dL_law_1081 : decode cL_law 1081 = .ok (.iconst 3, 1) := by decide +kernel
theorem dL_law_1082 : decode cL_law 1082 = .ok (.iadd, 1) := by decide +kernel
theorem dL_law_1083 : decode cL_law 1083 = .ok (.iaload, 1) := by decide +kernel
theorem dL_law_1084 : decode cL_law 1084 = .ok (.aload_n 0, 1) := by decide +kernel
theorem dL_law_1085 : decode cL_law 1085 = .ok (.iload_n 3, 1) := by decide +kernel
theorem dL_law_1086 : decode cL_law 1086 = .ok (.iconst 4, 1) := by decide +kernel
theorem dL_law_1087 : decode cL_law 1087 = .ok (.iadd, 1) := by decide +kernel
theorem dL_law_1088 : decode cL_law 1088 = .ok (.iaload, 1) := by decide +kernel
theorem dL_law_1089 : decode cL_law 1089 = .ok (.aload_n 0, 1) := by decide +kernel
theorem dL_law_1090 : decode cL_law 1090 = .ok (.iload_n 3, 1) := by decide +kernel
theorem dL_law_1091 : decode cL_law 1091 = .ok (.iconst 5, 1) := by decide +kernel
theorem dL_law_1092 : decode cL_law 1092 = .ok (.iadd, 1) := by decide +kernel
theorem dL_law_1093 : decode cL_law 1093 = .ok (.iaload, 1) := by decide +kernel
theorem dL_law_1094 : decode cL_law 1094 = .ok (.aload_n 0, 1) := by decide +kernel
theorem dL_law_1095 : decode cL_law 1095 = .ok (.iload_n 3, 1) := by decide +kernel
theorem dL_law_1096 : decode cL_law 1096 = .ok (.bipush 6, 2) := by decide +kernel
theorem dL_law_1098 : decode cL_law 1098 = .ok (.iadd, 1) := by decide +kernel
theorem dL_law_1099 : decode cL_law 1099 = .ok (.iaload, 1) := by decide +kernel
theorem dL_law_1100 : decode cL_law 1100 = .ok (.invokevirtual 130, 3) := by decide +kernel
theorem dL_law_1103 : decode cL_law 1103 = .ok (.if_icmp .eq 435, 3) := by decide +kernel
theorem dL_law_1106 : decode cL_law 1106 = .ok (.iconst 0, 1) := by decide +kernel
theorem dL_law_1107 : decode cL_law 1107 = .ok (.ireturn, 1) := by decide +kernel
theorem dL_law_1108 : decode cL_law 1108 = .ok (.aload_n 1, 1) := by decide +kernel
theorem dL_law_1109 : decode cL_law 1109 = .ok (.aload_n 0, 1) := by decide +kernel
theorem dL_law_1110 : decode cL_law 1110 = .ok (.iload_n 3, 1) := by decide +kernel
theorem dL_law_1111 : decode cL_law 1111 = .ok (.iconst 1, 1) := by decide +kernel
theorem dL_law_1112 : decode cL_law 1112 = .ok (.iadd, 1) := by decide +kernel
theorem dL_law_1113 : decode cL_law 1113 = .ok (.iaload, 1) := by decide +kernel
theorem dL_law_1114 : decode cL_law 1114 = .ok (.aload_n 0, 1) := by decide +kernel
theorem dL_law_1115 : decode cL_law 1115 = .ok (.iload_n 3, 1) := by decide +kernel
theorem dL_law_1116 : decode cL_law 1116 = .ok (.iconst 2, 1) := by decide +kernel
theorem dL_law_1117 : decode cL_law 1117 = .ok (.iadd, 1) := by decide +kernel
theorem dL_law_1118 : decode cL_law 1118 = .ok (.iaload, 1) := by decide +kernel
theorem dL_law_1119 : decode cL_law 1119 = .ok (.aload_n 0, 1) := by decide +kernel
theorem dL_law_1120 : decode cL_law 1120 = .ok (.iload_n 3, 1) := by decide +kernel
theorem dL_law_1121 : decode cL_law 1121 = .ok (.iconst 3, 1) := by decide +kernel
theorem dL_law_1122 : decode cL_law 1122 = .ok (.iadd, 1) := by decide +kernel
theorem dL_law_1123 : decode cL_law 1123 = .ok (.iaload, 1) := by decide +kernel
theorem dL_law_1124 : decode cL_law 1124 = .ok (.aload_n 0, 1) := by decide +kernel
theorem dL_law_1125 : decode cL_law 1125 = .ok (.iload_n 3, 1) := by decide +kernel
theorem dL_law_1126 : decode cL_law 1126 = .ok (.iconst 4, 1) := by decide +kernel
theorem dL_law_1127 : decode cL_law 1127 = .ok (.iadd, 1) := by decide +kernel
theorem dL_law_1128 : decode cL_law 1128 = .ok (.iaload, 1) := by decide +kernel
theorem dL_law_1129 : decode cL_law 1129 = .ok (.invokevirtual 131, 3) := by decide +kernel
theorem dL_law_1132 : decode cL_law 1132 = .ok (.aload_n 2, 1) := by decide +kernel
theorem dL_law_1133 : decode cL_law 1133 = .ok (.aload_n 0, 1) := by decide +kernel
theorem dL_law_1134 : decode cL_law 1134 = .ok (.iload_n 3, 1) := by decide +kernel
theorem dL_law_1135 : decode cL_law 1135 = .ok (.iconst 1, 1) := by decide +kernel
theorem dL_law_1136 : decode cL_law 1136 = .ok (.iadd, 1) := by decide +kernel
theorem dL_law_1137 : decode cL_law 1137 = .ok (.iaload, 1) := by decide +kernel
theorem dL_law_1138 : decode cL_law 1138 = .ok (.aload_n 0, 1) := by decide +kernel
theorem dL_law_1139 : decode cL_law 1139 = .ok (.iload_n 3, 1) := by decide +kernel
theorem dL_law_1140 : decode cL_law 1140 = .ok (.iconst 2, 1) := by decide +kernel
theorem dL_law_1141 : decode cL_law 1141 = .ok (.iadd, 1) := by decide +kernel
theorem dL_law_1142 : decode cL_law 1142 = .ok (.iaload, 1) := by decide +kernel
theorem dL_law_1143 : decode cL_law 1143 = .ok (.aload_n 0, 1) := by decide +kernel
theorem dL_law_1144 : decode cL_law 1144 = .ok (.iload_n 3, 1) := by decide +kernel
theorem dL_law_1145 : decode cL_law 1145 = .ok (.iconst 3, 1) := by decide +kernel
theorem dL_law_1146 : decode cL_law 1146 = .ok (.iadd, 1) := by decide +kernel
theorem dL_law_1147 : decode cL_law 1147 = .ok (.iaload, 1) := by decide +kernel
theorem dL_law_1148 : decode cL_law 1148 = .ok (.aload_n 0, 1) := by decide +kernel
theorem dL_law_1149 : decode cL_law 1149 = .ok (.iload_n 3, 1) := by decide +kernel
theorem dL_law_1150 : decode cL_law 1150 = .ok (.iconst 4, 1) := by decide +kernel
theorem dL_law_1151 : decode cL_law 1151 = .ok (.iadd, 1) := by decide +kernel
theorem dL_law_1152 : decode cL_law 1152 = .ok (.iaload, 1) := by decide +kernel
theorem dL_law_1153 : decode cL_law 1153 = .ok (.invokevirtual 135, 3) := by decide +kernel
theorem dL_law_1156 : decode cL_law 1156 = .ok (.if_icmp .eq 382, 3) := by decide +kernel
theorem dL_law_1159 : decode cL_law 1159 = .ok (.iconst 0, 1) := by decide +kernel
theorem dL_law_1160 : decode cL_law 1160 = .ok (.ireturn, 1) := by decide +kernel
theorem dL_law_1161 : decode cL_law 1161 = .ok (.aload_n 1, 1) := by decide +kernel
theorem dL_law_1162 : decode cL_law 1162 = .ok (.aload_n 0, 1) := by decide +kernel
theorem dL_law_1163 : decode cL_law 1163 = .ok (.iload_n 3, 1) := by decide +kernel
theorem dL_law_1164 : decode cL_law 1164 = .ok (.iconst 1, 1) := by decide +kernel
theorem dL_law_1165 : decode cL_law 1165 = .ok (.iadd, 1) := by decide +kernel
theorem dL_law_1166 : decode cL_law 1166 = .ok (.iaload, 1) := by decide +kernel
theorem dL_law_1167 : decode cL_law 1167 = .ok (.aload_n 0, 1) := by decide +kernel
theorem dL_law_1168 : decode cL_law 1168 = .ok (.iload_n 3, 1) := by decide +kernel
theorem dL_law_1169 : decode cL_law 1169 = .ok (.iconst 2, 1) := by decide +kernel
theorem dL_law_1170 : decode cL_law 1170 = .ok (.iadd, 1) := by decide +kernel
theorem dL_law_1171 : decode cL_law 1171 = .ok (.iaload, 1) := by decide +kernel
theorem dL_law_1172 : decode cL_law 1172 = .ok (.aload_n 0, 1) := by decide +kernel
theorem dL_law_1173 : decode cL_law 1173 = .ok (.iload_n 3, 1) := by decide +kernel
theorem dL_law_1174 : decode cL_law 1174 = .ok (.iconst 3, 1) := by decide +kernel
theorem dL_law_1175 : decode cL_law 1175 = .ok (.iadd, 1) := by decide +kernel
theorem dL_law_1176 : decode cL_law 1176 = .ok (.iaload, 1) := by decide +kernel
theorem dL_law_1177 : decode cL_law 1177 = .ok (.aload_n 0, 1) := by decide +kernel
theorem dL_law_1178 : decode cL_law 1178 = .ok (.iload_n 3, 1) := by decide +kernel
theorem dL_law_1179 : decode cL_law 1179 = .ok (.iconst 4, 1) := by decide +kernel
theorem dL_law_1180 : decode cL_law 1180 = .ok (.iadd, 1) := by decide +kernel
theorem dL_law_1181 : decode cL_law 1181 = .ok (.iaload, 1) := by decide +kernel
theorem dL_law_1182 : decode cL_law 1182 = .ok (.invokevirtual 136, 3) := by decide +kernel
theorem dL_law_1185 : decode cL_law 1185 = .ok (.aload_n 2, 1) := by decide +kernel
theorem dL_law_1186 : decode cL_law 1186 = .ok (.aload_n 0, 1) := by decide +kernel
theorem dL_law_1187 : decode cL_law 1187 = .ok (.iload_n 3, 1) := by decide +kernel
theorem dL_law_1188 : decode cL_law 1188 = .ok (.iconst 1, 1) := by decide +kernel
theorem dL_law_1189 : decode cL_law 1189 = .ok (.iadd, 1) := by decide +kernel
theorem dL_law_1190 : decode cL_law 1190 = .ok (.iaload, 1) := by decide +kernel
theorem dL_law_1191 : decode cL_law 1191 = .ok (.aload_n 0, 1) := by decide +kernel
theorem dL_law_1192 : decode cL_law 1192 = .ok (.iload_n 3, 1) := by decide +kernel
theorem dL_law_1193 : decode cL_law 1193 = .ok (.iconst 2, 1) := by decide +kernel
theorem dL_law_1194 : decode cL_law 1194 = .ok (.iadd, 1) := by decide +kernel
theorem dL_law_1195 : decode cL_law 1195 = .ok (.iaload, 1) := by decide +kernel
theorem dL_law_1196 : decode cL_law 1196 = .ok (.aload_n 0, 1) := by decide +kernel
theorem dL_law_1197 : decode cL_law 1197 = .ok (.iload_n 3, 1) := by decide +kernel
theorem dL_law_1198 : decode cL_law 1198 = .ok (.iconst 3, 1) := by decide +kernel
theorem dL_law_1199 : decode cL_law 1199 = .ok (.iadd, 1) := by decide +kernel
theorem dL_law_1200 : decode cL_law 1200 = .ok (.iaload, 1) := by decide +kernel
theorem dL_law_1201 : decode cL_law 1201 = .ok (.aload_n 0, 1) := by decide +kernel
theorem dL_law_1202 : decode cL_law 1202 = .ok (.iload_n 3, 1) := by decide +kernel
theorem dL_law_1203 : decode cL_law 1203 = .ok (.iconst 4, 1) := by decide +kernel
theorem dL_law_1204 : decode cL_law 1204 = .ok (.iadd, 1) := by decide +kernel
theorem dL_law_1205 : decode cL_law 1205 = .ok (.iaload, 1) := by decide +kernel
theorem dL_law_1206 : decode cL_law 1206 = .ok (.invokevirtual 139, 3) := by decide +kernel
theorem dL_law_1209 : decode cL_law 1209 = .ok (.if_icmp .eq 329, 3) := by decide +kernel
theorem dL_law_1212 : decode cL_law 1212 = .ok (.iconst 0, 1) := by decide +kernel
theorem dL_law_1213 : decode cL_law 1213 = .ok (.ireturn, 1) := by decide +kernel
theorem dL_law_1214 : decode cL_law 1214 = .ok (.aload_n 1, 1) := by decide +kernel
theorem dL_law_1215 : decode cL_law 1215 = .ok (.aload_n 0, 1) := by decide +kernel
theorem dL_law_1216 : decode cL_law 1216 = .ok (.iload_n 3, 1) := by decide +kernel
theorem dL_law_1217 : decode cL_law 1217 = .ok (.iconst 1, 1) := by decide +kernel
theorem dL_law_1218 : decode cL_law 1218 = .ok (.iadd, 1) := by decide +kernel
theorem dL_law_1219 : decode cL_law 1219 = .ok (.iaload, 1) := by decide +kernel
theorem dL_law_1220 : decode cL_law 1220 = .ok (.aload_n 0, 1) := by decide +kernel
theorem dL_law_1221 : decode cL_law 1221 = .ok (.iload_n 3, 1) := by decide +kernel
theorem dL_law_1222 : decode cL_law 1222 = .ok (.iconst 2, 1) := by decide +kernel
theorem dL_law_1223 : decode cL_law 1223 = .ok (.iadd, 1) := by decide +kernel
theorem dL_law_1224 : decode cL_law 1224 = .ok (.iaload, 1) := by decide +kernel
theorem dL_law_1225 : decode cL_law 1225 = .ok (.invokevirtual 140, 3) := by decide +kernel
theorem dL_law_1228 : decode cL_law 1228 = .ok (.aload_n 2, 1) := by decide +kernel
theorem dL_law_1229 : decode cL_law 1229 = .ok (.aload_n 0, 1) := by decide +kernel
theorem dL_law_1230 : decode cL_law 1230 = .ok (.iload_n 3, 1) := by decide +kernel
theorem dL_law_1231 : decode cL_law 1231 = .ok (.iconst 1, 1) := by decide +kernel
theorem dL_law_1232 : decode cL_law 1232 = .ok (.iadd, 1) := by decide +kernel
theorem dL_law_1233 : decode cL_law 1233 = .ok (.iaload, 1) := by decide +kernel
theorem dL_law_1234 : decode cL_law 1234 = .ok (.aload_n 0, 1) := by decide +kernel
theorem dL_law_1235 : decode cL_law 1235 = .ok (.iload_n 3, 1) := by decide +kernel
theorem dL_law_1236 : decode cL_law 1236 = .ok (.iconst 2, 1) := by decide +kernel
theorem dL_law_1237 : decode cL_law 1237 = .ok (.iadd, 1) := by decide +kernel
theorem dL_law_1238 : decode cL_law 1238 = .ok (.iaload, 1) := by decide +kernel
theorem dL_law_1239 : decode cL_law 1239 = .ok (.invokevirtual 143, 3) := by decide +kernel
theorem dL_law_1242 : decode cL_law 1242 = .ok (.if_icmp .eq 296, 3) := by decide +kernel
theorem dL_law_1245 : decode cL_law 1245 = .ok (.iconst 0, 1) := by decide +kernel
theorem dL_law_1246 : decode cL_law 1246 = .ok (.ireturn, 1) := by decide +kernel
theorem dL_law_1247 : decode cL_law 1247 = .ok (.aload_n 1, 1) := by decide +kernel
theorem dL_law_1248 : decode cL_law 1248 = .ok (.aload_n 0, 1) := by decide +kernel
theorem dL_law_1249 : decode cL_law 1249 = .ok (.iload_n 3, 1) := by decide +kernel
theorem dL_law_1250 : decode cL_law 1250 = .ok (.iconst 1, 1) := by decide +kernel
theorem dL_law_1251 : decode cL_law 1251 = .ok (.iadd, 1) := by decide +kernel
theorem dL_law_1252 : decode cL_law 1252 = .ok (.iaload, 1) := by decide +kernel
theorem dL_law_1253 : decode cL_law 1253 = .ok (.aload_n 0, 1) := by decide +kernel
theorem dL_law_1254 : decode cL_law 1254 = .ok (.iload_n 3, 1) := by decide +kernel
theorem dL_law_1255 : decode cL_law 1255 = .ok (.iconst 2, 1) := by decide +kernel
theorem dL_law_1256 : decode cL_law 1256 = .ok (.iadd, 1) := by decide +kernel
theorem dL_law_1257 : decode cL_law 1257 = .ok (.iaload, 1) := by decide +kernel
theorem dL_law_1258 : decode cL_law 1258 = .ok (.aload_n 0, 1) := by decide +kernel
theorem dL_law_1259 : decode cL_law 1259 = .ok (.iload_n 3, 1) := by decide +kernel
theorem dL_law_1260 : decode cL_law 1260 = .ok (.iconst 3, 1) := by decide +kernel
theorem dL_law_1261 : decode cL_law 1261 = .ok (.iadd, 1) := by decide +kernel
theorem dL_law_1262 : decode cL_law 1262 = .ok (.iaload, 1) := by decide +kernel
theorem dL_law_1263 : decode cL_law 1263 = .ok (.aload_n 0, 1) := by decide +kernel
theorem dL_law_1264 : decode cL_law 1264 = .ok (.iload_n 3, 1) := by decide +kernel
theorem dL_law_1265 : decode cL_law 1265 = .ok (.iconst 4, 1) := by decide +kernel
theorem dL_law_1266 : decode cL_law 1266 = .ok (.iadd, 1) := by decide +kernel
theorem dL_law_1267 : decode cL_law 1267 = .ok (.iaload, 1) := by decide +kernel
theorem dL_law_1268 : decode cL_law 1268 = .ok (.invokevirtual 144, 3) := by decide +kernel
theorem dL_law_1271 : decode cL_law 1271 = .ok (.aload_n 2, 1) := by decide +kernel
theorem dL_law_1272 : decode cL_law 1272 = .ok (.aload_n 0, 1) := by decide +kernel
theorem dL_law_1273 : decode cL_law 1273 = .ok (.iload_n 3, 1) := by decide +kernel
theorem dL_law_1274 : decode cL_law 1274 = .ok (.iconst 1, 1) := by decide +kernel
theorem dL_law_1275 : decode cL_law 1275 = .ok (.iadd, 1) := by decide +kernel
theorem dL_law_1276 : decode cL_law 1276 = .ok (.iaload, 1) := by decide +kernel
theorem dL_law_1277 : decode cL_law 1277 = .ok (.aload_n 0, 1) := by decide +kernel
theorem dL_law_1278 : decode cL_law 1278 = .ok (.iload_n 3, 1) := by decide +kernel
theorem dL_law_1279 : decode cL_law 1279 = .ok (.iconst 2, 1) := by decide +kernel
theorem dL_law_1280 : decode cL_law 1280 = .ok (.iadd, 1) := by decide +kernel
theorem dL_law_1281 : decode cL_law 1281 = .ok (.iaload, 1) := by decide +kernel
theorem dL_law_1282 : decode cL_law 1282 = .ok (.aload_n 0, 1) := by decide +kernel
theorem dL_law_1283 : decode cL_law 1283 = .ok (.iload_n 3, 1) := by decide +kernel
theorem dL_law_1284 : decode cL_law 1284 = .ok (.iconst 3, 1) := by decide +kernel
theorem dL_law_1285 : decode cL_law 1285 = .ok (.iadd, 1) := by decide +kernel
theorem dL_law_1286 : decode cL_law 1286 = .ok (.iaload, 1) := by decide +kernel
theorem dL_law_1287 : decode cL_law 1287 = .ok (.aload_n 0, 1) := by decide +kernel
theorem dL_law_1288 : decode cL_law 1288 = .ok (.iload_n 3, 1) := by decide +kernel
theorem dL_law_1289 : decode cL_law 1289 = .ok (.iconst 4, 1) := by decide +kernel
theorem dL_law_1290 : decode cL_law 1290 = .ok (.iadd, 1) := by decide +kernel
theorem dL_law_1291 : decode cL_law 1291 = .ok (.iaload, 1) := by decide +kernel
theorem dL_law_1292 : decode cL_law 1292 = .ok (.invokevirtual 148, 3) := by decide +kernel
theorem dL_law_1295 : decode cL_law 1295 = .ok (.lcmp, 1) := by decide +kernel
theorem dL_law_1296 : decode cL_law 1296 = .ok (.ifCond .eq 242, 3) := by decide +kernel
theorem dL_law_1299 : decode cL_law 1299 = .ok (.iconst 0, 1) := by decide +kernel
theorem dL_law_1300 : decode cL_law 1300 = .ok (.ireturn, 1) := by decide +kernel
theorem dL_law_1301 : decode cL_law 1301 = .ok (.aload_n 1, 1) := by decide +kernel
theorem dL_law_1302 : decode cL_law 1302 = .ok (.aload_n 0, 1) := by decide +kernel
theorem dL_law_1303 : decode cL_law 1303 = .ok (.iload_n 3, 1) := by decide +kernel
theorem dL_law_1304 : decode cL_law 1304 = .ok (.iconst 1, 1) := by decide +kernel
theorem dL_law_1305 : decode cL_law 1305 = .ok (.iadd, 1) := by decide +kernel
theorem dL_law_1306 : decode cL_law 1306 = .ok (.iaload, 1) := by decide +kernel
theorem dL_law_1307 : decode cL_law 1307 = .ok (.aload_n 0, 1) := by decide +kernel
theorem dL_law_1308 : decode cL_law 1308 = .ok (.iload_n 3, 1) := by decide +kernel
theorem dL_law_1309 : decode cL_law 1309 = .ok (.iconst 2, 1) := by decide +kernel
theorem dL_law_1310 : decode cL_law 1310 = .ok (.iadd, 1) := by decide +kernel
theorem dL_law_1311 : decode cL_law 1311 = .ok (.iaload, 1) := by decide +kernel
theorem dL_law_1312 : decode cL_law 1312 = .ok (.aload_n 0, 1) := by decide +kernel
theorem dL_law_1313 : decode cL_law 1313 = .ok (.iload_n 3, 1) := by decide +kernel
theorem dL_law_1314 : decode cL_law 1314 = .ok (.iconst 3, 1) := by decide +kernel
theorem dL_law_1315 : decode cL_law 1315 = .ok (.iadd, 1) := by decide +kernel
theorem dL_law_1316 : decode cL_law 1316 = .ok (.iaload, 1) := by decide +kernel
theorem dL_law_1317 : decode cL_law 1317 = .ok (.invokevirtual 149, 3) := by decide +kernel
theorem dL_law_1320 : decode cL_law 1320 = .ok (.aload_n 2, 1) := by decide +kernel
theorem dL_law_1321 : decode cL_law 1321 = .ok (.aload_n 0, 1) := by decide +kernel
theorem dL_law_1322 : decode cL_law 1322 = .ok (.iload_n 3, 1) := by decide +kernel
theorem dL_law_1323 : decode cL_law 1323 = .ok (.iconst 1, 1) := by decide +kernel
theorem dL_law_1324 : decode cL_law 1324 = .ok (.iadd, 1) := by decide +kernel
theorem dL_law_1325 : decode cL_law 1325 = .ok (.iaload, 1) := by decide +kernel
theorem dL_law_1326 : decode cL_law 1326 = .ok (.aload_n 0, 1) := by decide +kernel
theorem dL_law_1327 : decode cL_law 1327 = .ok (.iload_n 3, 1) := by decide +kernel
theorem dL_law_1328 : decode cL_law 1328 = .ok (.iconst 2, 1) := by decide +kernel
theorem dL_law_1329 : decode cL_law 1329 = .ok (.iadd, 1) := by decide +kernel
theorem dL_law_1330 : decode cL_law 1330 = .ok (.iaload, 1) := by decide +kernel
theorem dL_law_1331 : decode cL_law 1331 = .ok (.aload_n 0, 1) := by decide +kernel
theorem dL_law_1332 : decode cL_law 1332 = .ok (.iload_n 3, 1) := by decide +kernel
theorem dL_law_1333 : decode cL_law 1333 = .ok (.iconst 3, 1) := by decide +kernel
theorem dL_law_1334 : decode cL_law 1334 = .ok (.iadd, 1) := by decide +kernel
theorem dL_law_1335 : decode cL_law 1335 = .ok (.iaload, 1) := by decide +kernel
theorem dL_law_1336 : decode cL_law 1336 = .ok (.invokevirtual 152, 3) := by decide +kernel
theorem dL_law_1339 : decode cL_law 1339 = .ok (.if_icmp .eq 199, 3) := by decide +kernel
theorem dL_law_1342 : decode cL_law 1342 = .ok (.iconst 0, 1) := by decide +kernel
theorem dL_law_1343 : decode cL_law 1343 = .ok (.ireturn, 1) := by decide +kernel
theorem dL_law_1344 : decode cL_law 1344 = .ok (.aload_n 1, 1) := by decide +kernel
theorem dL_law_1345 : decode cL_law 1345 = .ok (.aload_n 0, 1) := by decide +kernel
theorem dL_law_1346 : decode cL_law 1346 = .ok (.iload_n 3, 1) := by decide +kernel
theorem dL_law_1347 : decode cL_law 1347 = .ok (.iconst 1, 1) := by decide +kernel
theorem dL_law_1348 : decode cL_law 1348 = .ok (.iadd, 1) := by decide +kernel
theorem dL_law_1349 : decode cL_law 1349 = .ok (.iaload, 1) := by decide +kernel
theorem dL_law_1350 : decode cL_law 1350 = .ok (.invokevirtual 153, 3) := by decide +kernel
theorem dL_law_1353 : decode cL_law 1353 = .ok (.aload_n 2, 1) := by decide +kernel
theorem dL_law_1354 : decode cL_law 1354 = .ok (.aload_n 0, 1) := by decide +kernel
theorem dL_law_1355 : decode cL_law 1355 = .ok (.iload_n 3, 1) := by decide +kernel
theorem dL_law_1356 : decode cL_law 1356 = .ok (.iconst 1, 1) := by decide +kernel
theorem dL_law_1357 : decode cL_law 1357 = .ok (.iadd, 1) := by decide +kernel
theorem dL_law_1358 : decode cL_law 1358 = .ok (.iaload, 1) := by decide +kernel
theorem dL_law_1359 : decode cL_law 1359 = .ok (.invokevirtual 156, 3) := by decide +kernel
theorem dL_law_1362 : decode cL_law 1362 = .ok (.if_icmp .eq 176, 3) := by decide +kernel
theorem dL_law_1365 : decode cL_law 1365 = .ok (.iconst 0, 1) := by decide +kernel
theorem dL_law_1366 : decode cL_law 1366 = .ok (.ireturn, 1) := by decide +kernel
theorem dL_law_1367 : decode cL_law 1367 = .ok (.aload_n 1, 1) := by decide +kernel
theorem dL_law_1368 : decode cL_law 1368 = .ok (.aload_n 0, 1) := by decide +kernel
theorem dL_law_1369 : decode cL_law 1369 = .ok (.iload_n 3, 1) := by decide +kernel
theorem dL_law_1370 : decode cL_law 1370 = .ok (.iconst 1, 1) := by decide +kernel
theorem dL_law_1371 : decode cL_law 1371 = .ok (.iadd, 1) := by decide +kernel
theorem dL_law_1372 : decode cL_law 1372 = .ok (.iaload, 1) := by decide +kernel
theorem dL_law_1373 : decode cL_law 1373 = .ok (.invokevirtual 157, 3) := by decide +kernel
theorem dL_law_1376 : decode cL_law 1376 = .ok (.aload_n 2, 1) := by decide +kernel
theorem dL_law_1377 : decode cL_law 1377 = .ok (.aload_n 0, 1) := by decide +kernel
theorem dL_law_1378 : decode cL_law 1378 = .ok (.iload_n 3, 1) := by decide +kernel
theorem dL_law_1379 : decode cL_law 1379 = .ok (.iconst 1, 1) := by decide +kernel
theorem dL_law_1380 : decode cL_law 1380 = .ok (.iadd, 1) := by decide +kernel
theorem dL_law_1381 : decode cL_law 1381 = .ok (.iaload, 1) := by decide +kernel
theorem dL_law_1382 : decode cL_law 1382 = .ok (.invokevirtual 160, 3) := by decide +kernel
theorem dL_law_1385 : decode cL_law 1385 = .ok (.if_icmp .eq 153, 3) := by decide +kernel
theorem dL_law_1388 : decode cL_law 1388 = .ok (.iconst 0, 1) := by decide +kernel
theorem dL_law_1389 : decode cL_law 1389 = .ok (.ireturn, 1) := by decide +kernel
theorem dL_law_1390 : decode cL_law 1390 = .ok (.aload_n 1, 1) := by decide +kernel
theorem dL_law_1391 : decode cL_law 1391 = .ok (.aload_n 0, 1) := by decide +kernel
theorem dL_law_1392 : decode cL_law 1392 = .ok (.iload_n 3, 1) := by decide +kernel
theorem dL_law_1393 : decode cL_law 1393 = .ok (.iconst 1, 1) := by decide +kernel
theorem dL_law_1394 : decode cL_law 1394 = .ok (.iadd, 1) := by decide +kernel
theorem dL_law_1395 : decode cL_law 1395 = .ok (.iaload, 1) := by decide +kernel
theorem dL_law_1396 : decode cL_law 1396 = .ok (.invokevirtual 161, 3) := by decide +kernel
theorem dL_law_1399 : decode cL_law 1399 = .ok (.aload_n 2, 1) := by decide +kernel
theorem dL_law_1400 : decode cL_law 1400 = .ok (.aload_n 0, 1) := by decide +kernel
theorem dL_law_1401 : decode cL_law 1401 = .ok (.iload_n 3, 1) := by decide +kernel
theorem dL_law_1402 : decode cL_law 1402 = .ok (.iconst 1, 1) := by decide +kernel
theorem dL_law_1403 : decode cL_law 1403 = .ok (.iadd, 1) := by decide +kernel
theorem dL_law_1404 : decode cL_law 1404 = .ok (.iaload, 1) := by decide +kernel
theorem dL_law_1405 : decode cL_law 1405 = .ok (.invokevirtual 164, 3) := by decide +kernel
theorem dL_law_1408 : decode cL_law 1408 = .ok (.if_icmp .eq 130, 3) := by decide +kernel
theorem dL_law_1411 : decode cL_law 1411 = .ok (.iconst 0, 1) := by decide +kernel
theorem dL_law_1412 : decode cL_law 1412 = .ok (.ireturn, 1) := by decide +kernel
theorem dL_law_1413 : decode cL_law 1413 = .ok (.aload_n 1, 1) := by decide +kernel
theorem dL_law_1414 : decode cL_law 1414 = .ok (.aload_n 0, 1) := by decide +kernel
theorem dL_law_1415 : decode cL_law 1415 = .ok (.iload_n 3, 1) := by decide +kernel
theorem dL_law_1416 : decode cL_law 1416 = .ok (.iconst 1, 1) := by decide +kernel
theorem dL_law_1417 : decode cL_law 1417 = .ok (.iadd, 1) := by decide +kernel
theorem dL_law_1418 : decode cL_law 1418 = .ok (.iaload, 1) := by decide +kernel
theorem dL_law_1419 : decode cL_law 1419 = .ok (.aload_n 0, 1) := by decide +kernel
theorem dL_law_1420 : decode cL_law 1420 = .ok (.iload_n 3, 1) := by decide +kernel
theorem dL_law_1421 : decode cL_law 1421 = .ok (.iconst 2, 1) := by decide +kernel
theorem dL_law_1422 : decode cL_law 1422 = .ok (.iadd, 1) := by decide +kernel
theorem dL_law_1423 : decode cL_law 1423 = .ok (.iaload, 1) := by decide +kernel
theorem dL_law_1424 : decode cL_law 1424 = .ok (.invokevirtual 165, 3) := by decide +kernel
theorem dL_law_1427 : decode cL_law 1427 = .ok (.aload_n 2, 1) := by decide +kernel
theorem dL_law_1428 : decode cL_law 1428 = .ok (.aload_n 0, 1) := by decide +kernel
theorem dL_law_1429 : decode cL_law 1429 = .ok (.iload_n 3, 1) := by decide +kernel
theorem dL_law_1430 : decode cL_law 1430 = .ok (.iconst 1, 1) := by decide +kernel
theorem dL_law_1431 : decode cL_law 1431 = .ok (.iadd, 1) := by decide +kernel
theorem dL_law_1432 : decode cL_law 1432 = .ok (.iaload, 1) := by decide +kernel
theorem dL_law_1433 : decode cL_law 1433 = .ok (.aload_n 0, 1) := by decide +kernel
theorem dL_law_1434 : decode cL_law 1434 = .ok (.iload_n 3, 1) := by decide +kernel
theorem dL_law_1435 : decode cL_law 1435 = .ok (.iconst 2, 1) := by decide +kernel
theorem dL_law_1436 : decode cL_law 1436 = .ok (.iadd, 1) := by decide +kernel
theorem dL_law_1437 : decode cL_law 1437 = .ok (.iaload, 1) := by decide +kernel
theorem dL_law_1438 : decode cL_law 1438 = .ok (.invokevirtual 168, 3) := by decide +kernel
theorem dL_law_1441 : decode cL_law 1441 = .ok (.if_icmp .eq 97, 3) := by decide +kernel
theorem dL_law_1444 : decode cL_law 1444 = .ok (.iconst 0, 1) := by decide +kernel
theorem dL_law_1445 : decode cL_law 1445 = .ok (.ireturn, 1) := by decide +kernel
theorem dL_law_1446 : decode cL_law 1446 = .ok (.aload_n 1, 1) := by decide +kernel
theorem dL_law_1447 : decode cL_law 1447 = .ok (.aload_n 0, 1) := by decide +kernel
theorem dL_law_1448 : decode cL_law 1448 = .ok (.iload_n 3, 1) := by decide +kernel
theorem dL_law_1449 : decode cL_law 1449 = .ok (.iconst 1, 1) := by decide +kernel
theorem dL_law_1450 : decode cL_law 1450 = .ok (.iadd, 1) := by decide +kernel
theorem dL_law_1451 : decode cL_law 1451 = .ok (.iaload, 1) := by decide +kernel
theorem dL_law_1452 : decode cL_law 1452 = .ok (.aload_n 0, 1) := by decide +kernel
theorem dL_law_1453 : decode cL_law 1453 = .ok (.iload_n 3, 1) := by decide +kernel
theorem dL_law_1454 : decode cL_law 1454 = .ok (.iconst 2, 1) := by decide +kernel
theorem dL_law_1455 : decode cL_law 1455 = .ok (.iadd, 1) := by decide +kernel
theorem dL_law_1456 : decode cL_law 1456 = .ok (.iaload, 1) := by decide +kernel
theorem dL_law_1457 : decode cL_law 1457 = .ok (.invokevirtual 169, 3) := by decide +kernel
theorem dL_law_1460 : decode cL_law 1460 = .ok (.aload_n 2, 1) := by decide +kernel
theorem dL_law_1461 : decode cL_law 1461 = .ok (.aload_n 0, 1) := by decide +kernel
theorem dL_law_1462 : decode cL_law 1462 = .ok (.iload_n 3, 1) := by decide +kernel
theorem dL_law_1463 : decode cL_law 1463 = .ok (.iconst 1, 1) := by decide +kernel
theorem dL_law_1464 : decode cL_law 1464 = .ok (.iadd, 1) := by decide +kernel
theorem dL_law_1465 : decode cL_law 1465 = .ok (.iaload, 1) := by decide +kernel
theorem dL_law_1466 : decode cL_law 1466 = .ok (.aload_n 0, 1) := by decide +kernel
theorem dL_law_1467 : decode cL_law 1467 = .ok (.iload_n 3, 1) := by decide +kernel
theorem dL_law_1468 : decode cL_law 1468 = .ok (.iconst 2, 1) := by decide +kernel
theorem dL_law_1469 : decode cL_law 1469 = .ok (.iadd, 1) := by decide +kernel
theorem dL_law_1470 : decode cL_law 1470 = .ok (.iaload, 1) := by decide +kernel
theorem dL_law_1471 : decode cL_law 1471 = .ok (.invokevirtual 172, 3) := by decide +kernel
theorem dL_law_1474 : decode cL_law 1474 = .ok (.if_icmp .eq 64, 3) := by decide +kernel
theorem dL_law_1477 : decode cL_law 1477 = .ok (.iconst 0, 1) := by decide +kernel
theorem dL_law_1478 : decode cL_law 1478 = .ok (.ireturn, 1) := by decide +kernel
theorem dL_law_1479 : decode cL_law 1479 = .ok (.aload_n 1, 1) := by decide +kernel
theorem dL_law_1480 : decode cL_law 1480 = .ok (.aload_n 0, 1) := by decide +kernel
theorem dL_law_1481 : decode cL_law 1481 = .ok (.iload_n 3, 1) := by decide +kernel
theorem dL_law_1482 : decode cL_law 1482 = .ok (.iconst 1, 1) := by decide +kernel
theorem dL_law_1483 : decode cL_law 1483 = .ok (.iadd, 1) := by decide +kernel
theorem dL_law_1484 : decode cL_law 1484 = .ok (.iaload, 1) := by decide +kernel
theorem dL_law_1485 : decode cL_law 1485 = .ok (.invokevirtual 173, 3) := by decide +kernel
theorem dL_law_1488 : decode cL_law 1488 = .ok (.aload_n 2, 1) := by decide +kernel
theorem dL_law_1489 : decode cL_law 1489 = .ok (.aload_n 0, 1) := by decide +kernel
theorem dL_law_1490 : decode cL_law 1490 = .ok (.iload_n 3, 1) := by decide +kernel
theorem dL_law_1491 : decode cL_law 1491 = .ok (.iconst 1, 1) := by decide +kernel
theorem dL_law_1492 : decode cL_law 1492 = .ok (.iadd, 1) := by decide +kernel
theorem dL_law_1493 : decode cL_law 1493 = .ok (.iaload, 1) := by decide +kernel
theorem dL_law_1494 : decode cL_law 1494 = .ok (.invokevirtual 176, 3) := by decide +kernel
theorem dL_law_1497 : decode cL_law 1497 = .ok (.if_icmp .eq 41, 3) := by decide +kernel
theorem dL_law_1500 : decode cL_law 1500 = .ok (.iconst 0, 1) := by decide +kernel
theorem dL_law_1501 : decode cL_law 1501 = .ok (.ireturn, 1) := by decide +kernel
theorem dL_law_1502 : decode cL_law 1502 = .ok (.aload_n 1, 1) := by decide +kernel
theorem dL_law_1503 : decode cL_law 1503 = .ok (.aload_n 0, 1) := by decide +kernel
theorem dL_law_1504 : decode cL_law 1504 = .ok (.iload_n 3, 1) := by decide +kernel
theorem dL_law_1505 : decode cL_law 1505 = .ok (.iconst 1, 1) := by decide +kernel
theorem dL_law_1506 : decode cL_law 1506 = .ok (.iadd, 1) := by decide +kernel
theorem dL_law_1507 : decode cL_law 1507 = .ok (.iaload, 1) := by decide +kernel
theorem dL_law_1508 : decode cL_law 1508 = .ok (.invokevirtual 177, 3) := by decide +kernel
theorem dL_law_1511 : decode cL_law 1511 = .ok (.aload_n 2, 1) := by decide +kernel
theorem dL_law_1512 : decode cL_law 1512 = .ok (.aload_n 0, 1) := by decide +kernel
theorem dL_law_1513 : decode cL_law 1513 = .ok (.iload_n 3, 1) := by decide +kernel
theorem dL_law_1514 : decode cL_law 1514 = .ok (.iconst 1, 1) := by decide +kernel
theorem dL_law_1515 : decode cL_law 1515 = .ok (.iadd, 1) := by decide +kernel
theorem dL_law_1516 : decode cL_law 1516 = .ok (.iaload, 1) := by decide +kernel
theorem dL_law_1517 : decode cL_law 1517 = .ok (.invokevirtual 180, 3) := by decide +kernel
theorem dL_law_1520 : decode cL_law 1520 = .ok (.if_icmp .eq 18, 3) := by decide +kernel
theorem dL_law_1523 : decode cL_law 1523 = .ok (.iconst 0, 1) := by decide +kernel
theorem dL_law_1524 : decode cL_law 1524 = .ok (.ireturn, 1) := by decide +kernel
theorem dL_law_1525 : decode cL_law 1525 = .ok (.aload_n 1, 1) := by decide +kernel
theorem dL_law_1526 : decode cL_law 1526 = .ok (.invokevirtual 181, 3) := by decide +kernel
theorem dL_law_1529 : decode cL_law 1529 = .ok (.aload_n 2, 1) := by decide +kernel
theorem dL_law_1530 : decode cL_law 1530 = .ok (.invokevirtual 184, 3) := by decide +kernel
theorem dL_law_1533 : decode cL_law 1533 = .ok (.if_icmp .eq 5, 3) := by decide +kernel
theorem dL_law_1536 : decode cL_law 1536 = .ok (.iconst 0, 1) := by decide +kernel
theorem dL_law_1537 : decode cL_law 1537 = .ok (.ireturn, 1) := by decide +kernel
theorem dL_law_1538 : decode cL_law 1538 = .ok (.iinc 3 7, 3) := by decide +kernel
theorem dL_law_1541 : decode cL_law 1541 = .ok (.goto (-1523), 3) := by decide +kernel
theorem dL_law_1544 : decode cL_law 1544 = .ok (.iconst 1, 1) := by decide +kernel
theorem dL_law_1545 : decode cL_law 1545 = .ok (.ireturn, 1) := by decide +kernel
end
section
/-! numbers: a JVM int as a mathematical one -/
abbrev hp_H : Type := Int → Int → Int
def hp_I (x : Int) : Int32 := Int32.ofInt x
def hp_J (x : Int) : Int64 := Int64.ofInt x
def hp_w (x : Int) : Int := (x + 2147483648) % 4294967296 - 2147483648
def hp_wl (x : Int) : Int := (x + 9223372036854775808) % 18446744073709551616 - 9223372036854775808
def hp_w8 (x : Int) : Int := (x + 128) % 256 - 128
def hp_w16 (x : Int) : Int := (x + 32768) % 65536 - 32768
def hp_r (x : Int) : Prop := -2147483648 ≤ x ∧ x < 2147483648
def hp_rl (x : Int) : Prop := -9223372036854775808 ≤ x ∧ x < 9223372036854775808
def hp_in (H : hp_H) : Prop := ∀ a i, hp_r (H a i)
def hp_up (H : hp_H) (a i v : Int) : hp_H := fun b j => if b = a ∧ j = i then v else H b j
theorem hp_w_b (x : Int) : hp_w x = x.bmod 4294967296 := by
  unfold hp_w Int.bmod
  have h1 := Int.emod_nonneg x (show (4294967296 : Int) ≠ 0 by decide)
  have h2 := Int.emod_lt_of_pos x (show (0 : Int) < 4294967296 by decide)
  dsimp only
  split <;> omega
theorem hp_wl_b (x : Int) : hp_wl x = x.bmod 18446744073709551616 := by
  unfold hp_wl Int.bmod
  have h1 := Int.emod_nonneg x (show (18446744073709551616 : Int) ≠ 0 by decide)
  have h2 := Int.emod_lt_of_pos x (show (0 : Int) < 18446744073709551616 by decide)
  dsimp only
  split <;> omega
theorem hp_w8_b (x : Int) : hp_w8 x = x.bmod 256 := by
  unfold hp_w8 Int.bmod
  dsimp only
  split <;> omega
theorem hp_w16_b (x : Int) : hp_w16 x = x.bmod 65536 := by
  unfold hp_w16 Int.bmod
  dsimp only
  split <;> omega
theorem hp_rw (x : Int) : hp_r (hp_w x) := by unfold hp_r hp_w; omega
theorem hp_rwl (x : Int) : hp_rl (hp_wl x) := by unfold hp_rl hp_wl; omega
theorem hp_rw8 (x : Int) : hp_r (hp_w8 x) := by unfold hp_r hp_w8; omega
theorem hp_rw16 (x : Int) : hp_r (hp_w16 x) := by unfold hp_r hp_w16; omega
theorem hp_wr {x : Int} (h : hp_r x) : hp_w x = x := by unfold hp_r at h; unfold hp_w; omega
theorem hp_wlr {x : Int} (h : hp_rl x) : hp_wl x = x := by unfold hp_rl at h; unfold hp_wl; omega
theorem hp_rrl {x : Int} (h : hp_r x) : hp_rl x := by unfold hp_r at h; unfold hp_rl; omega
theorem hp_rite {c : Prop} [Decidable c] {x y : Int} (h : hp_r x) (h2 : hp_r y) : hp_r (if c then x else y) := by split <;> assumption
theorem hp_rlite {c : Prop} [Decidable c] {x y : Int} (h : hp_rl x) (h2 : hp_rl y) : hp_rl (if c then x else y) := by split <;> assumption
theorem hp_in_up {H : hp_H} {a i v : Int} (h : hp_in H) (hv : hp_r v) : hp_in (hp_up H a i v) := by
  intro b j
  unfold hp_up
  split
  · exact hv
  · exact h b j
theorem hp_It {x : Int} (h : hp_r x) : (hp_I x).toInt = x := Int32.toInt_ofInt_of_le h.1 h.2
theorem hp_Jt {x : Int} (h : hp_rl x) : (hp_J x).toInt = x := Int64.toInt_ofInt_of_le h.1 h.2
theorem hp_Iw (x : Int) : hp_I (hp_w x) = hp_I x := Int32.toInt_inj.mp (by
  rw [hp_It (hp_rw x), hp_w_b]
  exact (Int32.toInt_ofInt (n := x)).symm)
theorem hp_Jw (x : Int) : hp_J (hp_wl x) = hp_J x := Int64.toInt_inj.mp (by
  rw [hp_Jt (hp_rwl x), hp_wl_b]
  exact (Int64.toInt_ofInt (n := x)).symm)
theorem hp_Io (x : Int32) : hp_I x.toInt = x := Int32.ofInt_toInt x
theorem hp_Jo (x : Int64) : hp_J x.toInt = x := Int64.ofInt_toInt x
theorem hp_rt (x : Int32) : hp_r x.toInt := ⟨Int32.le_toInt x, Int32.toInt_lt x⟩
theorem hp_rlt (x : Int64) : hp_rl x.toInt := ⟨Int64.le_toInt x, Int64.toInt_lt x⟩
theorem hp_add (a b : Int) : hp_I a + hp_I b = hp_I (hp_w (a + b)) := by rw [hp_Iw]; exact (Int32.ofInt_add a b).symm
theorem hp_sub (a b : Int) : hp_I a - hp_I b = hp_I (hp_w (a - b)) := by rw [hp_Iw]; exact (Int32.ofInt_sub a b).symm
theorem hp_mul (a b : Int) : hp_I a * hp_I b = hp_I (hp_w (a * b)) := by rw [hp_Iw]; exact (Int32.ofInt_mul a b).symm
theorem hp_neg (a : Int) : -hp_I a = hp_I (hp_w (-a)) := by rw [hp_Iw]; exact (Int32.ofInt_neg a).symm
theorem hp_addl (a b : Int) : hp_J a + hp_J b = hp_J (hp_wl (a + b)) := by rw [hp_Jw]; exact (Int64.ofInt_add a b).symm
theorem hp_subl (a b : Int) : hp_J a - hp_J b = hp_J (hp_wl (a - b)) := by rw [hp_Jw]; exact (Int64.ofInt_sub a b).symm
theorem hp_mull (a b : Int) : hp_J a * hp_J b = hp_J (hp_wl (a * b)) := by rw [hp_Jw]; exact (Int64.ofInt_mul a b).symm
theorem hp_lt {a b : Int} (ha : hp_r a) (hb : hp_r b) : hp_I a < hp_I b ↔ a < b := by rw [Int32.lt_iff_toInt_lt, hp_It ha, hp_It hb]
theorem hp_le {a b : Int} (ha : hp_r a) (hb : hp_r b) : hp_I a ≤ hp_I b ↔ a ≤ b := by rw [Int32.le_iff_toInt_le, hp_It ha, hp_It hb]
theorem hp_eq {a b : Int} (ha : hp_r a) (hb : hp_r b) : hp_I a = hp_I b ↔ a = b := by rw [← Int32.toInt_inj, hp_It ha, hp_It hb]
theorem hp_ltl {a b : Int} (ha : hp_rl a) (hb : hp_rl b) : hp_J a < hp_J b ↔ a < b := by rw [Int64.lt_iff_toInt_lt, hp_Jt ha, hp_Jt hb]
theorem hp_eql {a b : Int} (ha : hp_rl a) (hb : hp_rl b) : hp_J a = hp_J b ↔ a = b := by rw [← Int64.toInt_inj, hp_Jt ha, hp_Jt hb]
theorem hp_r0 : hp_r 0 := by unfold hp_r; omega
theorem hp_rl0 : hp_rl 0 := by unfold hp_rl; omega
theorem hp_div {a b : Int} (ha : hp_r a) (hb : hp_r b) : hp_I a / hp_I b = hp_I (hp_w (a.tdiv b)) := Int32.toInt_inj.mp (by
  rw [Int32.toInt_div, hp_It ha, hp_It hb, hp_It (hp_rw _), hp_w_b])
theorem hp_divl {a b : Int} (ha : hp_rl a) (hb : hp_rl b) : hp_J a / hp_J b = hp_J (hp_wl (a.tdiv b)) := Int64.toInt_inj.mp (by
  rw [Int64.toInt_div, hp_Jt ha, hp_Jt hb, hp_Jt (hp_rwl _), hp_wl_b])
theorem hp_rem {a b : Int} (ha : hp_r a) (hb : hp_r b) : hp_I a - hp_I a / hp_I b * hp_I b = hp_I (a.tmod b) := by
  rw [hp_div ha hb, hp_Iw, hp_mul, hp_Iw, hp_sub, hp_Iw, Int.tmod_def, Int.mul_comm]
theorem hp_reml {a b : Int} (ha : hp_rl a) (hb : hp_rl b) : hp_J a - hp_J a / hp_J b * hp_J b = hp_J (a.tmod b) := by
  rw [hp_divl ha hb, hp_Jw, hp_mull, hp_Jw, hp_subl, hp_Jw, Int.tmod_def, Int.mul_comm]
theorem hp_rrem {a b : Int} (ha : hp_r a) : hp_r (a.tmod b) := by
  have h1 := Int.natAbs_tmod a b
  have h2 := Nat.mod_le a.natAbs b.natAbs
  have h3 : 0 ≤ a → 0 ≤ a.tmod b := fun h => Int.tmod_nonneg b h
  have h4 : a ≤ 0 → a.tmod b ≤ 0 := fun h => by
    have h5 := Int.tmod_nonneg (a := -a) b (by omega)
    rw [Int.neg_tmod] at h5
    omega
  unfold hp_r at *
  omega
theorem hp_rreml {a b : Int} (ha : hp_rl a) : hp_rl (a.tmod b) := by
  have h1 := Int.natAbs_tmod a b
  have h2 := Nat.mod_le a.natAbs b.natAbs
  have h3 : 0 ≤ a → 0 ≤ a.tmod b := fun h => Int.tmod_nonneg b h
  have h4 : a ≤ 0 → a.tmod b ≤ 0 := fun h => by
    have h5 := Int.tmod_nonneg (a := -a) b (by omega)
    rw [Int.neg_tmod] at h5
    omega
  unfold hp_rl at *
  omega
def hp_and (a b : Int) : Int := (hp_I a &&& hp_I b).toInt
def hp_or (a b : Int) : Int := (hp_I a ||| hp_I b).toInt
def hp_xor (a b : Int) : Int := (hp_I a ^^^ hp_I b).toInt
def hp_shl (a b : Int) : Int := (hp_I a <<< (hp_I b &&& 31)).toInt
def hp_shr (a b : Int) : Int := (hp_I a >>> (hp_I b &&& 31)).toInt
def hp_ush (a b : Int) : Int := ((hp_I a).toUInt32 >>> ((hp_I b).toUInt32 &&& Int32.toUInt32 31)).toInt32.toInt
def hp_cmp (a b : Int) : Int := if b < a then 1 else if a = b then 0 else -1
def hp_max (a b : Int) : Int := if a < b then b else a
def hp_min (a b : Int) : Int := if b < a then b else a
def hp_abs (a : Int) : Int := if 0 ≤ a then a else hp_w (0 - a)
theorem hp_cmp_I {a b : Int} (ha : hp_rl a) (hb : hp_rl b) : lg_cmp (hp_J a) (hp_J b) = hp_I (hp_cmp a b) := by
  unfold lg_cmp hp_cmp
  show (if hp_J b < hp_J a then (1 : Int32) else if hp_J a = hp_J b then 0 else -1) = _
  by_cases h : b < a
  · rw [if_pos ((hp_ltl hb ha).mpr h), if_pos h]; rfl
  · rw [if_neg (fun q => h ((hp_ltl hb ha).mp q)), if_neg h]
    by_cases h2 : a = b
    · rw [if_pos ((hp_eql ha hb).mpr h2), if_pos h2]; rfl
    · rw [if_neg (fun q => h2 ((hp_eql ha hb).mp q)), if_neg h2]; rfl
theorem hp_rcmp (a b : Int) : hp_r (hp_cmp a b) := by unfold hp_cmp hp_r; (repeat' split) <;> omega
theorem hp_l2i (a : Int) : (hp_J a).toInt32 = hp_I (hp_w a) := by rw [hp_Iw]; exact Int64.toInt32_ofInt
theorem hp_i2l {a : Int} (h : hp_r a) : (hp_I a).toInt64 = hp_J a := Int64.toInt_inj.mp (by rw [Int32.toInt_toInt64, hp_It h, hp_Jt (hp_rrl h)])
theorem hp_i2b (a : Int) : (hp_I a).toInt8.toInt32 = hp_I (hp_w8 a) := Int32.toInt_inj.mp (by
  rw [Int8.toInt_toInt32, hp_It (hp_rw8 a), hp_w8_b, show (hp_I a).toInt8 = Int8.ofInt a from Int32.toInt8_ofInt]
  exact Int8.toInt_ofInt)
theorem hp_i2s (a : Int) : (hp_I a).toInt16.toInt32 = hp_I (hp_w16 a) := Int32.toInt_inj.mp (by
  rw [Int16.toInt_toInt32, hp_It (hp_rw16 a), hp_w16_b, show (hp_I a).toInt16 = Int16.ofInt a from Int32.toInt16_ofInt]
  exact Int16.toInt_ofInt)
/-- an index -/
theorem hp_ix {i : Int} {n : Nat} (h : 0 ≤ i ∧ i < n) (hn : n ≤ 65536) : vp_in (hp_I i) n ∧ (hp_I i).toNatClampNeg = i.toNat := by
  have hr : hp_r i := by unfold hp_r; omega
  refine ⟨vp_in_iff.mpr (by rw [hp_It hr]; exact h), ?_⟩
  show (hp_I i).toInt.toNat = _
  rw [hp_It hr]
theorem hp_tn {i : Int} (h : 0 ≤ i) : ((i.toNat : Nat) : Int) = i := Int.toNat_of_nonneg h
end
section
/-! the world: cells in a fixed order from a base on; objects' references are fixed, ints lie in a table of cells and slots -/
/-- (0, class, fields: none an int, some a reference), (1, n, _) ints, (2, n, _) booleans, (3 Towns, 4 rows of ints; n, [base, stride]) -/
abbrev hp_S : Type := Nat × Nat × List (Option Int)
/-- tables of fields, base, array types, static arrays, cells -/
abbrev hp_G : Type := va_G × Nat × (Nat → ClassId) × (Nat → Nat) × List hp_S
def hp_sh (G : hp_G) : List hp_S := G.2.2.2.2
def hp_ad (G : hp_G) (a : Int) : Nat := if a < 0 then G.2.2.2.1 (-a).toNat else G.2.1 + a.toNat
def hp_A (G : hp_G) : Nat → Prop := fun q => G.2.1 ≤ q ∧ q < G.2.1 + (hp_sh G).length
def hp_sl (G : hp_G) (h : Int → Int) : Nat → List (Option Int) → List Value
  | _, [] => []
  | j, none :: r => .int (hp_I (h (j : Int))) :: hp_sl G h (j + 1) r
  | j, some a :: r => .ref (hp_ad G a) :: hp_sl G h (j + 1) r
def hp_rfs (G : hp_G) (l : List (Option Int)) (j : Nat) : Option Nat := some (hp_ad G ((l.getD 0 none).getD 0 + (l.getD 1 none).getD 0 * (j : Int)))
def hp_ce (G : hp_G) (sh : hp_S) (h : Int → Int) : va_E := match sh.1 with
  | 0 => .inr (sh.2.1, hp_sl G h 0 sh.2.2)
  | 1 => .inl (G.2.2.1 0, sh.2.1, .inl (fun j => hp_I (h (j : Int))))
  | 2 => .inl (G.2.2.1 1, sh.2.1, .inl (fun j => hp_I (h (j : Int))))
  | 3 => .inl (G.2.2.1 2, sh.2.1, .inr (.inr (.inr (.inr (hp_rfs G sh.2.2)))))
  | _ => .inl (G.2.2.1 3, sh.2.1, .inr (.inr (.inr (.inr (hp_rfs G sh.2.2)))))
def hp_ws (G : hp_G) (H : hp_H) : va_W := (hp_sh G).zipIdx.map (fun q => (G.2.1 + q.2, hp_ce G q.1 (H (q.2 : Int))))
theorem hp_ws_get {G : hp_G} {H : hp_H} {k : Nat} {sh : hp_S} (h : (hp_sh G)[k]? = some sh) : (hp_ws G H)[k]? = some (G.2.1 + k, hp_ce G sh (H (k : Int))) := by
  unfold hp_ws
  rw [List.getElem?_map, List.getElem?_zipIdx, h]
  simp
theorem hp_ws_len (G : hp_G) (H : hp_H) : (hp_ws G H).length = (hp_sh G).length := by
  unfold hp_ws
  simp
theorem hp_ws_set {G : hp_G} {H H' : hp_H} {k : Nat} {sh : hp_S} {e : va_E} (h : (hp_sh G)[k]? = some sh) (he : e = hp_ce G sh (H' (k : Int))) (ho : ∀ j : Nat, j ≠ k → H' (j : Int) = H (j : Int)) : (hp_ws G H).set k (G.2.1 + k, e) = hp_ws G H' := by
  apply List.ext_getElem?
  intro j
  by_cases hj : j = k
  · subst hj
    have hl : j < (hp_ws G H).length := by rw [hp_ws_len]; exact (List.getElem?_eq_some_iff.mp h).1
    rw [List.getElem?_set_self hl, hp_ws_get h, he]
  · rw [List.getElem?_set_ne (Ne.symm hj)]
    cases hx : (hp_sh G)[j]? with
    | none =>
      have h1 : (hp_sh G).length ≤ j := List.getElem?_eq_none_iff.mp hx
      rw [List.getElem?_eq_none_iff.mpr (by rw [hp_ws_len]; exact h1), List.getElem?_eq_none_iff.mpr (by rw [hp_ws_len]; exact h1)]
    | some x => rw [hp_ws_get hx, hp_ws_get hx, ho j hj]
/-- what each static table holds: 1 KIND_ABOVE, 2 SIZE_BODIES, 3 MARK_BODIES -/
def hp_tab (a i : Int) : Int := if a = -1 then ([0, 0, 1, 1, 0, 4] : List Int).getD i.toNat 0 else if a = -2 then ([10, 11, 12, 0, 13, 14] : List Int).getD i.toNat 0 else ([20, 21, 24, 22, 23, 0] : List Int).getD i.toNat 0
def hp_sn (k : Nat) : String := if k = 1 then "KIND_ABOVE" else if k = 2 then "SIZE_BODIES" else "MARK_BODIES"
def hp_nest : Cond := .methodLinkNest "HeelPost$Tape" 76 ⟨"HeelPost", "within", "(III)Z"⟩ "HeelPost"
/-- what the machine's tables say beside: the static tables, and the nest mate's method -/
def hp_St (G : hp_G) (U : State) (Hc : Heap) : Prop :=
  (∀ k : Nat, 1 ≤ k → k ≤ 3 → va_Z "HeelPost$Asks" (hp_sn k) "[I" (.ref (G.2.2.2.1 k)) (hp_A G) U Hc ∧ va_T .int (G.2.2.2.1 k) 6 (fun j => .int (hp_I (hp_tab (-(k : Int)) (j : Int)))) (hp_A G) U Hc) ∧ va_Nw hp_nest U
def hp_tys (G : hp_G) : List (ClassId × FieldType) := [(G.2.2.1 0, .int), (G.2.2.1 1, .boolean), (G.2.2.1 2, .object "HeelPost$Town"), (G.2.2.1 3, .array .int)]
def hp_W (G : hp_G) (H : hp_H) (U : State) (Hc : Heap) : Prop :=
  va_P G.1 vwCl (hp_ws G H) Hc ∧ va_K G.1 vwCl (hp_tys G) U ∧ va_D (hp_A G) (hp_ws G H) ∧ hp_St G U Hc
theorem hp_St.kept {G : hp_G} {U : State} {H H1 : Heap} (h : hp_St G U H) (hq : ∀ a : Nat, a < H.size → ¬ hp_A G a → H1[a]? = H[a]?) : hp_St G U H1 := ⟨fun k h1 h2 => ⟨(h.1 k h1 h2).1.kept hq, (h.1 k h1 h2).2.kept hq⟩, h.2⟩
theorem hp_St.warm {G : hp_G} {s U : State} {H : Heap} (hW : s.WarmedH U.vm) (h : hp_St G s H) : hp_St G U H := ⟨fun k h1 h2 => ⟨(h.1 k h1 h2).1.moved hW.alike, (h.1 k h1 h2).2.moved hW.alike⟩, va_Nw.warmM hW h.2⟩
theorem hp_St.same {G : hp_G} {s U : State} {H : Heap} (hv : s.vm = U.vm) (h : hp_St G s H) : hp_St G U H := ⟨fun k h1 h2 => ⟨(h.1 k h1 h2).1.moved (hv ▸ Vm.Alike.refl s.vm), (h.1 k h1 h2).2.moved (hv ▸ Vm.Alike.refl s.vm)⟩, va_Nw.same rfl hv h.2⟩
theorem hp_W.same {G : hp_G} {H : hp_H} {s U : State} {Hc : Heap} (hv : s.vm = U.vm) (h : hp_W G H s Hc) : hp_W G H U Hc := ⟨h.1, va_K.moved (hv ▸ Vm.Alike.refl s.vm) h.2.1, h.2.2.1, h.2.2.2.same hv⟩
/-- the words that every method has: all good ones of the tables -/
def hp_tb : List Cond := lw_tbl.filter goodWord
theorem hp_tb_of {w : Cond} (h : w ∈ lw_tbl) (hg : goodWord w = true) : w ∈ hp_tb := List.mem_filter.mpr ⟨h, hg⟩
theorem hp_tb_at {w : Cond} (i : Nat) (h : lw_tbl[i]? = some w) (hg : goodWord w = true) : w ∈ hp_tb := hp_tb_of (List.mem_of_getElem? h) hg
theorem hp_tb_good {w : Cond} (h : w ∈ hp_tb) : (w.onTables && w.keeps) = true ∨ ∃ ty, w = .arrayClass ty := good_of_word (List.mem_filter.mp h).2
abbrev hp_wd (y : MethodName) (cc : ByteArray) (nL : Nat) (ret : Option FieldType) : List Cond := .code y cc nL ret :: hp_tb
theorem hp_goodIn {big : List Cond} {y : MethodName} {cc : ByteArray} {nL : Nat} {ret : Option FieldType} (hs : ∀ w ∈ hp_tb, w ∈ big) (h : Cond.code y cc nL ret ∈ hp_tb) : GoodIn big (hp_wd y cc nL ret) := by
  intro w hw
  rcases List.mem_cons.mp hw with e | e
  · rw [e]; exact ⟨hs _ h, hp_tb_good h⟩
  · exact ⟨hs _ e, hp_tb_good e⟩
/-- a method's end -/
def hp_Q (G : hp_G) (v : Option Value) (H' : hp_H) (Z : Prop) : Array Value → State → Outcome → State → Prop := fun _ st o t => (o = .returned v ∧ Z ∧ hp_W G H' t t.heap) ∧ va_F (hp_A G) st t
def hp_Pc (G : hp_G) (As : List Value) (H : hp_H) : Array Value → State → Prop := va_Pc As (fun U => hp_W G H U U.heap)
/-- a method's contract: from H it answers v and leaves H' -/
def hp_M (G : hp_G) (l : Launch) (y : MethodName) (cc : ByteArray) (nL : Nat) (ret : Option FieldType) (R : Room) (As : List Value) (H : hp_H) (v : Option Value) (H' : hp_H) (Z : Prop) : Prop :=
  Met l y (hp_wd y cc nL ret) R (hp_Pc G As H) (hp_Q G v H' Z) 0 0 (hp_A G)
def hp_C (cc : ByteArray) (nL : Nat) (ret : Option FieldType) (own : String) (p : Program) (s : State) (m : MethodId) (args : Array Value) (meth : Method) (c : Code) : Prop :=
  p.tables.exec = Jvm.exec ∧ c.code = cc ∧ meth.sig.returnType = ret ∧ c.maxLocals = nL ∧ s.vm.findClass own = some m.cls ∧ (∀ w ∈ hp_tb, w.before args s = true) ∧ meth.locks = false
/-- within a method, at pc: it comes to its end with v and H' -/
def hp_R (G : hp_G) (l : Launch) (cc : ByteArray) (nL : Nat) (ret : Option FieldType) (own : String) (R : Room) (v : Option Value) (H' : hp_H) (Z : Prop) (pc : Nat) (L : List (Nat × Value)) (st : List Value) (H : hp_H) : Prop :=
  ∀ (p : Program) (e : Env) (s : State) (m : MethodId) (args : Array Value) (below : List Frame) (meth : Method) (c : Code), hp_C cc nL ret own p s m args meth c →
    ∀ (Hc : Heap) (locs : List Loc) (ls : Array Slot), hp_W G H s Hc → hp_St G s s.heap → va_S (hp_A G) s.heap Hc locs → lv_has ls nL L →
      W p l e R s m args below meth c Hc locs 0 0 (MQ below (hp_Q G v H' Z) args s 0 0 (hp_A G)) (F0 m pc ls st)
theorem hp_blind (G : hp_G) (As : List Value) (H : hp_H) : FrameBlind (hp_Pc G As H) := by
  intro a U g mk h
  exact ⟨h.1, hp_W.same (s := U) rfl h.2⟩
/-- a method's contract out of its body -/
theorem hp_body {G : hp_G} {l : Launch} {y : MethodName} {cc : ByteArray} {nL : Nat} {ret : Option FieldType} {R : Room} {As : List Value} {H H' : hp_H} {v : Option Value} {Z : Prop} (own : String) (hy : plainName y.cls = true) (ho : y.cls = own) (hc : R.cells = 0 ∧ R.slots = 0) (hlen : (lg_sl As).length ≤ nL) (k : hp_R G l cc nL ret own R v H' Z 0 (lv_args 0 As) [] H) : hp_M G l y cc nL ret R As H v H' Z := by
  refine Met.ofW (cc := cc) (maxL := nL) (ret := ret) hy rfl ?_
  intro p e s m args below meth c s₁ B hml hv
  obtain ⟨rfl, hW⟩ := hv
  have hts := atoms_spec (ws := hp_wd y cc nL ret) B.pre
  have hown : s.vm.findClass own = some m.cls := by rw [← ho]; exact findClass_of_methodNamed B.named
  have hl := lv_entry As (n := nL) hlen
  rw [lg_entry_eq]
  generalize (lg_sl As ++ List.replicate (nL - (lg_sl As).length) Slot.unset).toArray = ls at hl ⊢
  exact k p e s m As.toArray below meth c ⟨B.exec, B.bytes, B.returns, hml, hown, fun w hw => hts w (List.mem_cons_of_mem _ hw), B.notSynchronized⟩ s.heap [] ls hW hW.2.2.2 va_S.rf hl
end
section
/-! rules: an instruction each -/
section HR
variable {G : hp_G} {l : Launch} {cc : ByteArray} {nL : Nat} {ret : Option FieldType} {own : String} {R : Room} {v : Option Value} {H' : hp_H} {Z : Prop} {pc : Nat} {L L' : List (Nat × Value)} {st : List Value} {H : hp_H}
theorem x_iconst {n : Int} (hd : decode cc pc = .ok (.iconst n, 1)) (k : hp_R G l cc nL ret own R v H' Z (pc + 1) L (.int (hp_I n) :: st) H) : hp_R G l cc nL ret own R v H' Z pc L st H := by
  intro p e s m args below meth c hC Hc locs ls hW hT hS hl
  exact lv_iconst hC.1 hC.2.1 hd rfl (k p e s m args below meth c hC Hc locs ls hW hT hS hl)
theorem x_bipush {n : Int} (hv : (Int8.ofInt n).toInt32 = hp_I n) (hd : decode cc pc = .ok (.bipush n, 2)) (k : hp_R G l cc nL ret own R v H' Z (pc + 2) L (.int (hp_I n) :: st) H) : hp_R G l cc nL ret own R v H' Z pc L st H := by
  intro p e s m args below meth c hC Hc locs ls hW hT hS hl
  exact lv_bipush hC.1 hC.2.1 hd hv (k p e s m args below meth c hC Hc locs ls hW hT hS hl)
theorem x_sipush {n : Int} (hv : (Int16.ofInt n).toInt32 = hp_I n) (hd : decode cc pc = .ok (.sipush n, 3)) (k : hp_R G l cc nL ret own R v H' Z (pc + 3) L (.int (hp_I n) :: st) H) : hp_R G l cc nL ret own R v H' Z pc L st H := by
  intro p e s m args below meth c hC Hc locs ls hW hT hS hl
  exact lv_sipush hC.1 hC.2.1 hd hv (k p e s m args below meth c hC Hc locs ls hW hT hS hl)
theorem x_lconst {n : Fin 2} {x : Int} (hv : Int64.ofNat (n : Nat) = hp_J x) (hd : decode cc pc = .ok (.lconst n, 1)) (k : hp_R G l cc nL ret own R v H' Z (pc + 1) L (.long (hp_J x) :: st) H) : hp_R G l cc nL ret own R v H' Z pc L st H := by
  intro p e s m args below meth c hC Hc locs ls hW hT hS hl
  exact lv_lconst hC.1 hC.2.1 hd hv (k p e s m args below meth c hC Hc locs ls hW hT hS hl)
theorem x_ldc {idx : Nat} {w : Int32} {x : Int} (hw : Cond.constant own idx w ∈ hp_tb) (hv : w = hp_I x) (hd : decode cc pc = .ok (.ldc idx, 2)) (k : hp_R G l cc nL ret own R v H' Z (pc + 2) L (.int (hp_I x) :: st) H) : hp_R G l cc nL ret own R v H' Z pc L st H := by
  intro p e s m args below meth c hC Hc locs ls hW hT hS hl
  subst hv
  exact lv_ldc hC.1 hC.2.1 hC.2.2.2.2.1 (hC.2.2.2.2.2.1 _ hw) hd (k p e s m args below meth c hC Hc locs ls hW hT hS hl)
theorem x_ldcw {idx : Nat} {w : Int32} {x : Int} (hw : Cond.constant own idx w ∈ hp_tb) (hv : w = hp_I x) (hd : decode cc pc = .ok (.ldc_w idx, 3)) (k : hp_R G l cc nL ret own R v H' Z (pc + 3) L (.int (hp_I x) :: st) H) : hp_R G l cc nL ret own R v H' Z pc L st H := by
  intro p e s m args below meth c hC Hc locs ls hW hT hS hl
  subst hv
  exact lv_ldcw hC.1 hC.2.1 hC.2.2.2.2.1 (hC.2.2.2.2.2.1 _ hw) hd (k p e s m args below meth c hC Hc locs ls hW hT hS hl)
theorem x_ldc2 {idx : Nat} {w : Int64} {x : Int} (hw : Cond.constantLong own idx w ∈ hp_tb) (hv : w = hp_J x) (hd : decode cc pc = .ok (.ldc2_w idx, 3)) (k : hp_R G l cc nL ret own R v H' Z (pc + 3) L (.long (hp_J x) :: st) H) : hp_R G l cc nL ret own R v H' Z pc L st H := by
  intro p e s m args below meth c hC Hc locs ls hW hT hS hl
  subst hv
  exact lv_ldc2 hC.1 hC.2.1 hC.2.2.2.2.1 (hC.2.2.2.2.2.1 _ hw) hd (k p e s m args below meth c hC Hc locs ls hW hT hS hl)
theorem x_iload_n {i : Fin 4} {x : Int32} (hd : decode cc pc = .ok (.iload_n i, 1)) (j : Nat) (hj : L[j]? = some ((i : Nat), .int x)) (k : hp_R G l cc nL ret own R v H' Z (pc + 1) L (.int x :: st) H) : hp_R G l cc nL ret own R v H' Z pc L st H := by
  intro p e s m args below meth c hC Hc locs ls hW hT hS hl
  exact lv_iload_n hC.1 hC.2.1 hd rfl (lv_at hl j hj) (k p e s m args below meth c hC Hc locs ls hW hT hS hl)
theorem x_iload {i : Nat} {x : Int32} (hd : decode cc pc = .ok (.iload i, 2)) (j : Nat) (hj : L[j]? = some (i, .int x)) (k : hp_R G l cc nL ret own R v H' Z (pc + 2) L (.int x :: st) H) : hp_R G l cc nL ret own R v H' Z pc L st H := by
  intro p e s m args below meth c hC Hc locs ls hW hT hS hl
  exact lv_iload hC.1 hC.2.1 hd (lv_at hl j hj) (k p e s m args below meth c hC Hc locs ls hW hT hS hl)
theorem x_istore {i : Nat} {x : Int32} (hd : decode cc pc = .ok (.istore i, 2)) (hn : i < nL) (hL : (i, Value.int x) :: L.filter (fun q => !(q.1 == i) && !(q.1 + 1 == i && q.2.category == 2)) = L') (k : hp_R G l cc nL ret own R v H' Z (pc + 2) L' st H) : hp_R G l cc nL ret own R v H' Z pc L (.int x :: st) H := by
  intro p e s m args below meth c hC Hc locs ls hW hT hS hl
  exact lv_istore hC.1 hC.2.1 hd hl hn hL (fun ls' hl' => k p e s m args below meth c hC Hc locs ls' hW hT hS hl')
theorem x_istore_n {f : Fin 4} {i : Nat} {x : Int32} (hd : decode cc pc = .ok (.istore_n f, 1)) (hi : (f : Nat) = i) (hn : i < nL) (hL : (i, Value.int x) :: L.filter (fun q => !(q.1 == i) && !(q.1 + 1 == i && q.2.category == 2)) = L') (k : hp_R G l cc nL ret own R v H' Z (pc + 1) L' st H) : hp_R G l cc nL ret own R v H' Z pc L (.int x :: st) H := by
  intro p e s m args below meth c hC Hc locs ls hW hT hS hl
  exact lv_istore_n hC.1 hC.2.1 hd hi hl hn hL (fun ls' hl' => k p e s m args below meth c hC Hc locs ls' hW hT hS hl')
theorem x_lload_n {i : Fin 4} {x : Int64} (hd : decode cc pc = .ok (.lload_n i, 1)) (j : Nat) (hj : L[j]? = some ((i : Nat), .long x)) (k : hp_R G l cc nL ret own R v H' Z (pc + 1) L (.long x :: st) H) : hp_R G l cc nL ret own R v H' Z pc L st H := by
  intro p e s m args below meth c hC Hc locs ls hW hT hS hl
  exact lv_lload_n hC.1 hC.2.1 hd rfl (lv_at hl j hj) (k p e s m args below meth c hC Hc locs ls hW hT hS hl)
theorem x_lload {i : Nat} {x : Int64} (hd : decode cc pc = .ok (.lload i, 2)) (j : Nat) (hj : L[j]? = some (i, .long x)) (k : hp_R G l cc nL ret own R v H' Z (pc + 2) L (.long x :: st) H) : hp_R G l cc nL ret own R v H' Z pc L st H := by
  intro p e s m args below meth c hC Hc locs ls hW hT hS hl
  exact lv_lload hC.1 hC.2.1 hd (lv_at hl j hj) (k p e s m args below meth c hC Hc locs ls hW hT hS hl)
theorem x_lstore {i : Nat} {x : Int64} (hd : decode cc pc = .ok (.lstore i, 2)) (hn : i + 1 < nL) (hL : (i, Value.long x) :: L.filter (fun q => !(q.1 == i) && (!(q.1 == i + 1) && !(q.1 + 1 == i && q.2.category == 2))) = L') (k : hp_R G l cc nL ret own R v H' Z (pc + 2) L' st H) : hp_R G l cc nL ret own R v H' Z pc L (.long x :: st) H := by
  intro p e s m args below meth c hC Hc locs ls hW hT hS hl
  exact lv_lstore hC.1 hC.2.1 hd hl hn hL (fun ls' hl' => k p e s m args below meth c hC Hc locs ls' hW hT hS hl')
theorem x_lstore_n {f : Fin 4} {i : Nat} {x : Int64} (hd : decode cc pc = .ok (.lstore_n f, 1)) (hi : (f : Nat) = i) (hn : i + 1 < nL) (hL : (i, Value.long x) :: L.filter (fun q => !(q.1 == i) && (!(q.1 == i + 1) && !(q.1 + 1 == i && q.2.category == 2))) = L') (k : hp_R G l cc nL ret own R v H' Z (pc + 1) L' st H) : hp_R G l cc nL ret own R v H' Z pc L (.long x :: st) H := by
  intro p e s m args below meth c hC Hc locs ls hW hT hS hl
  exact lv_lstore_n hC.1 hC.2.1 hd hi hl hn hL (fun ls' hl' => k p e s m args below meth c hC Hc locs ls' hW hT hS hl')
theorem x_aload_n {i : Fin 4} {x : Nat} (hd : decode cc pc = .ok (.aload_n i, 1)) (j : Nat) (hj : L[j]? = some ((i : Nat), .ref x)) (k : hp_R G l cc nL ret own R v H' Z (pc + 1) L (.ref x :: st) H) : hp_R G l cc nL ret own R v H' Z pc L st H := by
  intro p e s m args below meth c hC Hc locs ls hW hT hS hl
  exact lv_aload_n hC.1 hC.2.1 hd rfl (lv_at hl j hj) (k p e s m args below meth c hC Hc locs ls hW hT hS hl)
theorem x_aload {i : Nat} {x : Nat} (hd : decode cc pc = .ok (.aload i, 2)) (j : Nat) (hj : L[j]? = some (i, .ref x)) (k : hp_R G l cc nL ret own R v H' Z (pc + 2) L (.ref x :: st) H) : hp_R G l cc nL ret own R v H' Z pc L st H := by
  intro p e s m args below meth c hC Hc locs ls hW hT hS hl
  exact lv_aload hC.1 hC.2.1 hd (lv_at hl j hj) (k p e s m args below meth c hC Hc locs ls hW hT hS hl)
theorem x_astore {i : Nat} {x : Nat} (hd : decode cc pc = .ok (.astore i, 2)) (hn : i < nL) (hL : (i, Value.ref x) :: L.filter (fun q => !(q.1 == i) && !(q.1 + 1 == i && q.2.category == 2)) = L') (k : hp_R G l cc nL ret own R v H' Z (pc + 2) L' st H) : hp_R G l cc nL ret own R v H' Z pc L (.ref x :: st) H := by
  intro p e s m args below meth c hC Hc locs ls hW hT hS hl
  exact lv_astore hC.1 hC.2.1 hd hl hn hL (fun ls' hl' => k p e s m args below meth c hC Hc locs ls' hW hT hS hl')
theorem x_astore_n {f : Fin 4} {i : Nat} {x : Nat} (hd : decode cc pc = .ok (.astore_n f, 1)) (hi : (f : Nat) = i) (hn : i < nL) (hL : (i, Value.ref x) :: L.filter (fun q => !(q.1 == i) && !(q.1 + 1 == i && q.2.category == 2)) = L') (k : hp_R G l cc nL ret own R v H' Z (pc + 1) L' st H) : hp_R G l cc nL ret own R v H' Z pc L (.ref x :: st) H := by
  intro p e s m args below meth c hC Hc locs ls hW hT hS hl
  exact lv_astore_n hC.1 hC.2.1 hd hi hl hn hL (fun ls' hl' => k p e s m args below meth c hC Hc locs ls' hW hT hS hl')
theorem x_iinc {i : Nat} {n x : Int} (hd : decode cc pc = .ok (.iinc i n, 3)) (j : Nat) (hj : L[j]? = some (i, .int (hp_I x))) (hn : i < nL) (hL : (i, Value.int (hp_I (hp_w (x + n)))) :: L.filter (fun q => !(q.1 == i) && !(q.1 + 1 == i && q.2.category == 2)) = L') (k : hp_R G l cc nL ret own R v H' Z (pc + 3) L' st H) : hp_R G l cc nL ret own R v H' Z pc L st H := by
  intro p e s m args below meth c hC Hc locs ls hW hT hS hl
  exact lv_iinc hC.1 hC.2.1 hd hl hj (hp_add x n) hn hL (fun ls' hl' => k p e s m args below meth c hC Hc locs ls' hW hT hS hl')
theorem x_iadd {a b : Int}  (hd : decode cc pc = .ok (.iadd, 1)) (k : hp_R G l cc nL ret own R v H' Z (pc + 1) L (.int (hp_I (hp_w (a + b))) :: st) H) : hp_R G l cc nL ret own R v H' Z pc L (.int (hp_I b) :: .int (hp_I a) :: st) H := by
  intro p e s m args below meth c hC Hc locs ls hW hT hS hl
  have k9 := k p e s m args below meth c hC Hc locs ls hW hT hS hl
  rw [← hp_add] at k9
  exact lv_iadd hC.1 hC.2.1 hd  k9
theorem x_isub {a b : Int}  (hd : decode cc pc = .ok (.isub, 1)) (k : hp_R G l cc nL ret own R v H' Z (pc + 1) L (.int (hp_I (hp_w (a - b))) :: st) H) : hp_R G l cc nL ret own R v H' Z pc L (.int (hp_I b) :: .int (hp_I a) :: st) H := by
  intro p e s m args below meth c hC Hc locs ls hW hT hS hl
  have k9 := k p e s m args below meth c hC Hc locs ls hW hT hS hl
  rw [← hp_sub] at k9
  exact lv_isub hC.1 hC.2.1 hd  k9
theorem x_imul {a b : Int}  (hd : decode cc pc = .ok (.imul, 1)) (k : hp_R G l cc nL ret own R v H' Z (pc + 1) L (.int (hp_I (hp_w (a * b))) :: st) H) : hp_R G l cc nL ret own R v H' Z pc L (.int (hp_I b) :: .int (hp_I a) :: st) H := by
  intro p e s m args below meth c hC Hc locs ls hW hT hS hl
  have k9 := k p e s m args below meth c hC Hc locs ls hW hT hS hl
  rw [← hp_mul] at k9
  exact lv_imul hC.1 hC.2.1 hd  k9
theorem x_ladd {a b : Int}  (hd : decode cc pc = .ok (.ladd, 1)) (k : hp_R G l cc nL ret own R v H' Z (pc + 1) L (.long (hp_J (hp_wl (a + b))) :: st) H) : hp_R G l cc nL ret own R v H' Z pc L (.long (hp_J b) :: .long (hp_J a) :: st) H := by
  intro p e s m args below meth c hC Hc locs ls hW hT hS hl
  have k9 := k p e s m args below meth c hC Hc locs ls hW hT hS hl
  rw [← hp_addl] at k9
  exact lv_ladd hC.1 hC.2.1 hd  k9
theorem x_lsub {a b : Int}  (hd : decode cc pc = .ok (.lsub, 1)) (k : hp_R G l cc nL ret own R v H' Z (pc + 1) L (.long (hp_J (hp_wl (a - b))) :: st) H) : hp_R G l cc nL ret own R v H' Z pc L (.long (hp_J b) :: .long (hp_J a) :: st) H := by
  intro p e s m args below meth c hC Hc locs ls hW hT hS hl
  have k9 := k p e s m args below meth c hC Hc locs ls hW hT hS hl
  rw [← hp_subl] at k9
  exact lv_lsub hC.1 hC.2.1 hd  k9
theorem x_lmul {a b : Int}  (hd : decode cc pc = .ok (.lmul, 1)) (k : hp_R G l cc nL ret own R v H' Z (pc + 1) L (.long (hp_J (hp_wl (a * b))) :: st) H) : hp_R G l cc nL ret own R v H' Z pc L (.long (hp_J b) :: .long (hp_J a) :: st) H := by
  intro p e s m args below meth c hC Hc locs ls hW hT hS hl
  have k9 := k p e s m args below meth c hC Hc locs ls hW hT hS hl
  rw [← hp_mull] at k9
  exact lv_lmul hC.1 hC.2.1 hd  k9
theorem x_idiv {a b : Int} (ha : hp_r a) (hb : hp_r b) (h0 : ¬ b = 0) (hd : decode cc pc = .ok (.idiv, 1)) (k : hp_R G l cc nL ret own R v H' Z (pc + 1) L (.int (hp_I (hp_w (a.tdiv b))) :: st) H) : hp_R G l cc nL ret own R v H' Z pc L (.int (hp_I b) :: .int (hp_I a) :: st) H := by
  intro p e s m args below meth c hC Hc locs ls hW hT hS hl
  have k9 := k p e s m args below meth c hC Hc locs ls hW hT hS hl
  rw [← hp_div ha hb] at k9
  exact lv_idiv hC.1 hC.2.1 hd (fun q => h0 ((hp_eq hb hp_r0).mp q)) k9
theorem x_irem {a b : Int} (ha : hp_r a) (hb : hp_r b) (h0 : ¬ b = 0) (hd : decode cc pc = .ok (.irem, 1)) (k : hp_R G l cc nL ret own R v H' Z (pc + 1) L (.int (hp_I (a.tmod b)) :: st) H) : hp_R G l cc nL ret own R v H' Z pc L (.int (hp_I b) :: .int (hp_I a) :: st) H := by
  intro p e s m args below meth c hC Hc locs ls hW hT hS hl
  have k9 := k p e s m args below meth c hC Hc locs ls hW hT hS hl
  rw [← hp_rem ha hb] at k9
  exact lv_irem hC.1 hC.2.1 hd (fun q => h0 ((hp_eq hb hp_r0).mp q)) k9
theorem x_ldiv {a b : Int} (ha : hp_rl a) (hb : hp_rl b) (h0 : ¬ b = 0) (hd : decode cc pc = .ok (.ldiv, 1)) (k : hp_R G l cc nL ret own R v H' Z (pc + 1) L (.long (hp_J (hp_wl (a.tdiv b))) :: st) H) : hp_R G l cc nL ret own R v H' Z pc L (.long (hp_J b) :: .long (hp_J a) :: st) H := by
  intro p e s m args below meth c hC Hc locs ls hW hT hS hl
  have k9 := k p e s m args below meth c hC Hc locs ls hW hT hS hl
  rw [← hp_divl ha hb] at k9
  exact lv_ldiv hC.1 hC.2.1 hd (fun q => h0 ((hp_eql hb hp_rl0).mp q)) k9
theorem x_lrem {a b : Int} (ha : hp_rl a) (hb : hp_rl b) (h0 : ¬ b = 0) (hd : decode cc pc = .ok (.lrem, 1)) (k : hp_R G l cc nL ret own R v H' Z (pc + 1) L (.long (hp_J (a.tmod b)) :: st) H) : hp_R G l cc nL ret own R v H' Z pc L (.long (hp_J b) :: .long (hp_J a) :: st) H := by
  intro p e s m args below meth c hC Hc locs ls hW hT hS hl
  have k9 := k p e s m args below meth c hC Hc locs ls hW hT hS hl
  rw [← hp_reml ha hb] at k9
  exact lv_lrem hC.1 hC.2.1 hd (fun q => h0 ((hp_eql hb hp_rl0).mp q)) k9
theorem x_iand {a b : Int} (hd : decode cc pc = .ok (.iand, 1)) (k : hp_R G l cc nL ret own R v H' Z (pc + 1) L (.int (hp_I (hp_and a b)) :: st) H) : hp_R G l cc nL ret own R v H' Z pc L (.int (hp_I b) :: .int (hp_I a) :: st) H := by
  intro p e s m args below meth c hC Hc locs ls hW hT hS hl
  have k9 := k p e s m args below meth c hC Hc locs ls hW hT hS hl
  rw [show hp_I (hp_and a b) = _ from hp_Io _] at k9
  exact lv_iand hC.1 hC.2.1 hd k9
theorem x_ior {a b : Int} (hd : decode cc pc = .ok (.ior, 1)) (k : hp_R G l cc nL ret own R v H' Z (pc + 1) L (.int (hp_I (hp_or a b)) :: st) H) : hp_R G l cc nL ret own R v H' Z pc L (.int (hp_I b) :: .int (hp_I a) :: st) H := by
  intro p e s m args below meth c hC Hc locs ls hW hT hS hl
  have k9 := k p e s m args below meth c hC Hc locs ls hW hT hS hl
  rw [show hp_I (hp_or a b) = _ from hp_Io _] at k9
  exact lv_ior hC.1 hC.2.1 hd k9
theorem x_ixor {a b : Int} (hd : decode cc pc = .ok (.ixor, 1)) (k : hp_R G l cc nL ret own R v H' Z (pc + 1) L (.int (hp_I (hp_xor a b)) :: st) H) : hp_R G l cc nL ret own R v H' Z pc L (.int (hp_I b) :: .int (hp_I a) :: st) H := by
  intro p e s m args below meth c hC Hc locs ls hW hT hS hl
  have k9 := k p e s m args below meth c hC Hc locs ls hW hT hS hl
  rw [show hp_I (hp_xor a b) = _ from hp_Io _] at k9
  exact lv_ixor hC.1 hC.2.1 hd k9
theorem x_ishl {a b : Int} (hd : decode cc pc = .ok (.ishl, 1)) (k : hp_R G l cc nL ret own R v H' Z (pc + 1) L (.int (hp_I (hp_shl a b)) :: st) H) : hp_R G l cc nL ret own R v H' Z pc L (.int (hp_I b) :: .int (hp_I a) :: st) H := by
  intro p e s m args below meth c hC Hc locs ls hW hT hS hl
  have k9 := k p e s m args below meth c hC Hc locs ls hW hT hS hl
  rw [show hp_I (hp_shl a b) = _ from hp_Io _] at k9
  exact lv_ishl hC.1 hC.2.1 hd k9
theorem x_ishr {a b : Int} (hd : decode cc pc = .ok (.ishr, 1)) (k : hp_R G l cc nL ret own R v H' Z (pc + 1) L (.int (hp_I (hp_shr a b)) :: st) H) : hp_R G l cc nL ret own R v H' Z pc L (.int (hp_I b) :: .int (hp_I a) :: st) H := by
  intro p e s m args below meth c hC Hc locs ls hW hT hS hl
  have k9 := k p e s m args below meth c hC Hc locs ls hW hT hS hl
  rw [show hp_I (hp_shr a b) = _ from hp_Io _] at k9
  exact lv_ishr hC.1 hC.2.1 hd k9
theorem x_iushr {a b : Int} (hd : decode cc pc = .ok (.iushr, 1)) (k : hp_R G l cc nL ret own R v H' Z (pc + 1) L (.int (hp_I (hp_ush a b)) :: st) H) : hp_R G l cc nL ret own R v H' Z pc L (.int (hp_I b) :: .int (hp_I a) :: st) H := by
  intro p e s m args below meth c hC Hc locs ls hW hT hS hl
  have k9 := k p e s m args below meth c hC Hc locs ls hW hT hS hl
  rw [show hp_I (hp_ush a b) = _ from hp_Io _] at k9
  exact lv_iushr hC.1 hC.2.1 hd rfl k9
theorem x_ineg {a : Int} (hd : decode cc pc = .ok (.ineg, 1)) (k : hp_R G l cc nL ret own R v H' Z (pc + 1) L (.int (hp_I (hp_w (-a))) :: st) H) : hp_R G l cc nL ret own R v H' Z pc L (.int (hp_I a) :: st) H := by
  intro p e s m args below meth c hC Hc locs ls hW hT hS hl
  have k9 := k p e s m args below meth c hC Hc locs ls hW hT hS hl
  rw [← hp_neg] at k9
  exact lv_ineg hC.1 hC.2.1 hd k9
theorem x_i2l {a : Int} (ha : hp_r a) (hd : decode cc pc = .ok (.i2l, 1)) (k : hp_R G l cc nL ret own R v H' Z (pc + 1) L (.long (hp_J a) :: st) H) : hp_R G l cc nL ret own R v H' Z pc L (.int (hp_I a) :: st) H := by
  intro p e s m args below meth c hC Hc locs ls hW hT hS hl
  exact lv_i2l hC.1 hC.2.1 hd (hp_i2l ha) (k p e s m args below meth c hC Hc locs ls hW hT hS hl)
theorem x_l2i {a : Int} (hd : decode cc pc = .ok (.l2i, 1)) (k : hp_R G l cc nL ret own R v H' Z (pc + 1) L (.int (hp_I (hp_w a)) :: st) H) : hp_R G l cc nL ret own R v H' Z pc L (.long (hp_J a) :: st) H := by
  intro p e s m args below meth c hC Hc locs ls hW hT hS hl
  exact lv_l2i hC.1 hC.2.1 hd (hp_l2i a) (k p e s m args below meth c hC Hc locs ls hW hT hS hl)
theorem x_i2b {a : Int} (hd : decode cc pc = .ok (.i2b, 1)) (k : hp_R G l cc nL ret own R v H' Z (pc + 1) L (.int (hp_I (hp_w8 a)) :: st) H) : hp_R G l cc nL ret own R v H' Z pc L (.int (hp_I a) :: st) H := by
  intro p e s m args below meth c hC Hc locs ls hW hT hS hl
  exact lv_i2b hC.1 hC.2.1 hd (hp_i2b a) (k p e s m args below meth c hC Hc locs ls hW hT hS hl)
theorem x_i2s {a : Int} (hd : decode cc pc = .ok (.i2s, 1)) (k : hp_R G l cc nL ret own R v H' Z (pc + 1) L (.int (hp_I (hp_w16 a)) :: st) H) : hp_R G l cc nL ret own R v H' Z pc L (.int (hp_I a) :: st) H := by
  intro p e s m args below meth c hC Hc locs ls hW hT hS hl
  exact lv_i2s hC.1 hC.2.1 hd (hp_i2s a) (k p e s m args below meth c hC Hc locs ls hW hT hS hl)
theorem x_lcmp {a b : Int} (ha : hp_rl a) (hb : hp_rl b) (hd : decode cc pc = .ok (.lcmp, 1)) (k : hp_R G l cc nL ret own R v H' Z (pc + 1) L (.int (hp_I (hp_cmp a b)) :: st) H) : hp_R G l cc nL ret own R v H' Z pc L (.long (hp_J b) :: .long (hp_J a) :: st) H := by
  intro p e s m args below meth c hC Hc locs ls hW hT hS hl
  have k9 := k p e s m args below meth c hC Hc locs ls hW hT hS hl
  rw [← hp_cmp_I ha hb] at k9
  exact W.lcmp hC.1 hC.2.1 hd k9
theorem x_dup {w : Value} (hc : w.category = 1) (hd : decode cc pc = .ok (.dup, 1)) (k : hp_R G l cc nL ret own R v H' Z (pc + 1) L (w :: w :: st) H) : hp_R G l cc nL ret own R v H' Z pc L (w :: st) H := by
  intro p e s m args below meth c hC Hc locs ls hW hT hS hl
  exact lv_dup hC.1 hC.2.1 hd hc (k p e s m args below meth c hC Hc locs ls hW hT hS hl)
theorem x_pop {w : Value} (hc : w.category = 1) (hd : decode cc pc = .ok (.pop, 1)) (k : hp_R G l cc nL ret own R v H' Z (pc + 1) L st H) : hp_R G l cc nL ret own R v H' Z pc L (w :: st) H := by
  intro p e s m args below meth c hC Hc locs ls hW hT hS hl
  exact lv_pop hC.1 hC.2.1 hd hc (k p e s m args below meth c hC Hc locs ls hW hT hS hl)
theorem x_dup2 {w u : Value} (hc : w.category = 1) (hc2 : u.category = 1) (hd : decode cc pc = .ok (.dup2, 1)) (k : hp_R G l cc nL ret own R v H' Z (pc + 1) L (w :: u :: w :: u :: st) H) : hp_R G l cc nL ret own R v H' Z pc L (w :: u :: st) H := by
  intro p e s m args below meth c hC Hc locs ls hW hT hS hl
  exact lv_dup2_11 hC.1 hC.2.1 hd hc hc2 (k p e s m args below meth c hC Hc locs ls hW hT hS hl)
theorem x_ifeq {a off : Int} {tgt : Nat} (hd : decode cc pc = .ok (.ifCond .eq off, 3)) (ht : (pc : Int) + off = (tgt : Int)) (ha : hp_r a) (kt : a = 0 → hp_R G l cc nL ret own R v H' Z tgt L st H) (kf : ¬ a = 0 → hp_R G l cc nL ret own R v H' Z (pc + 3) L st H) : hp_R G l cc nL ret own R v H' Z pc L (.int (hp_I a) :: st) H := by
  intro p e s m args below meth c hC Hc locs ls hW hT hS hl
  have q9 := hp_eq ha hp_r0
  exact lv_if_eq hC.1 hC.2.1 hd ht (fun q => kt (q9.mp q) p e s m args below meth c hC Hc locs ls hW hT hS hl) (fun q => kf (fun z => q (q9.mpr z)) p e s m args below meth c hC Hc locs ls hW hT hS hl)
theorem x_ifne {a off : Int} {tgt : Nat} (hd : decode cc pc = .ok (.ifCond .ne off, 3)) (ht : (pc : Int) + off = (tgt : Int)) (ha : hp_r a) (kt : ¬ a = 0 → hp_R G l cc nL ret own R v H' Z tgt L st H) (kf : a = 0 → hp_R G l cc nL ret own R v H' Z (pc + 3) L st H) : hp_R G l cc nL ret own R v H' Z pc L (.int (hp_I a) :: st) H := by
  intro p e s m args below meth c hC Hc locs ls hW hT hS hl
  have q9 := hp_eq ha hp_r0
  exact lv_if_ne hC.1 hC.2.1 hd ht (fun q => kt (fun z => q (q9.mpr z)) p e s m args below meth c hC Hc locs ls hW hT hS hl) (fun q => kf (q9.mp q) p e s m args below meth c hC Hc locs ls hW hT hS hl)
theorem x_iflt {a off : Int} {tgt : Nat} (hd : decode cc pc = .ok (.ifCond .lt off, 3)) (ht : (pc : Int) + off = (tgt : Int)) (ha : hp_r a) (kt : a < 0 → hp_R G l cc nL ret own R v H' Z tgt L st H) (kf : ¬ a < 0 → hp_R G l cc nL ret own R v H' Z (pc + 3) L st H) : hp_R G l cc nL ret own R v H' Z pc L (.int (hp_I a) :: st) H := by
  intro p e s m args below meth c hC Hc locs ls hW hT hS hl
  have q9 := hp_lt ha hp_r0
  exact lv_if_lt hC.1 hC.2.1 hd ht (fun q => kt (q9.mp q) p e s m args below meth c hC Hc locs ls hW hT hS hl) (fun q => kf (fun z => q (q9.mpr z)) p e s m args below meth c hC Hc locs ls hW hT hS hl)
theorem x_ifge {a off : Int} {tgt : Nat} (hd : decode cc pc = .ok (.ifCond .ge off, 3)) (ht : (pc : Int) + off = (tgt : Int)) (ha : hp_r a) (kt : ¬ a < 0 → hp_R G l cc nL ret own R v H' Z tgt L st H) (kf : a < 0 → hp_R G l cc nL ret own R v H' Z (pc + 3) L st H) : hp_R G l cc nL ret own R v H' Z pc L (.int (hp_I a) :: st) H := by
  intro p e s m args below meth c hC Hc locs ls hW hT hS hl
  have q9 := hp_lt ha hp_r0
  exact lv_if_ge hC.1 hC.2.1 hd ht (fun q => kt (fun z => Int32.not_le.mpr (q9.mpr z) q) p e s m args below meth c hC Hc locs ls hW hT hS hl) (fun q => kf (q9.mp (Int32.not_le.mp q)) p e s m args below meth c hC Hc locs ls hW hT hS hl)
theorem x_ifgt {a off : Int} {tgt : Nat} (hd : decode cc pc = .ok (.ifCond .gt off, 3)) (ht : (pc : Int) + off = (tgt : Int)) (ha : hp_r a) (kt : 0 < a → hp_R G l cc nL ret own R v H' Z tgt L st H) (kf : ¬ 0 < a → hp_R G l cc nL ret own R v H' Z (pc + 3) L st H) : hp_R G l cc nL ret own R v H' Z pc L (.int (hp_I a) :: st) H := by
  intro p e s m args below meth c hC Hc locs ls hW hT hS hl
  have q9 := hp_lt hp_r0 ha
  exact lv_if_gt hC.1 hC.2.1 hd ht (fun q => kt (q9.mp q) p e s m args below meth c hC Hc locs ls hW hT hS hl) (fun q => kf (fun z => q (q9.mpr z)) p e s m args below meth c hC Hc locs ls hW hT hS hl)
theorem x_ifle {a off : Int} {tgt : Nat} (hd : decode cc pc = .ok (.ifCond .le off, 3)) (ht : (pc : Int) + off = (tgt : Int)) (ha : hp_r a) (kt : ¬ 0 < a → hp_R G l cc nL ret own R v H' Z tgt L st H) (kf : 0 < a → hp_R G l cc nL ret own R v H' Z (pc + 3) L st H) : hp_R G l cc nL ret own R v H' Z pc L (.int (hp_I a) :: st) H := by
  intro p e s m args below meth c hC Hc locs ls hW hT hS hl
  have q9 := hp_lt hp_r0 ha
  exact lv_if_le hC.1 hC.2.1 hd ht (fun q => kt (fun z => Int32.not_le.mpr (q9.mpr z) q) p e s m args below meth c hC Hc locs ls hW hT hS hl) (fun q => kf (q9.mp (Int32.not_le.mp q)) p e s m args below meth c hC Hc locs ls hW hT hS hl)
theorem x_iceq {a b off : Int} {tgt : Nat} (hd : decode cc pc = .ok (.if_icmp .eq off, 3)) (ht : (pc : Int) + off = (tgt : Int)) (ha : hp_r a) (hb : hp_r b) (kt : a = b → hp_R G l cc nL ret own R v H' Z tgt L st H) (kf : ¬ a = b → hp_R G l cc nL ret own R v H' Z (pc + 3) L st H) : hp_R G l cc nL ret own R v H' Z pc L (.int (hp_I b) :: .int (hp_I a) :: st) H := by
  intro p e s m args below meth c hC Hc locs ls hW hT hS hl
  have q9 := hp_eq ha hb
  exact lv_icmp_eq hC.1 hC.2.1 hd ht (fun q => kt (q9.mp q) p e s m args below meth c hC Hc locs ls hW hT hS hl) (fun q => kf (fun z => q (q9.mpr z)) p e s m args below meth c hC Hc locs ls hW hT hS hl)
theorem x_icne {a b off : Int} {tgt : Nat} (hd : decode cc pc = .ok (.if_icmp .ne off, 3)) (ht : (pc : Int) + off = (tgt : Int)) (ha : hp_r a) (hb : hp_r b) (kt : ¬ a = b → hp_R G l cc nL ret own R v H' Z tgt L st H) (kf : a = b → hp_R G l cc nL ret own R v H' Z (pc + 3) L st H) : hp_R G l cc nL ret own R v H' Z pc L (.int (hp_I b) :: .int (hp_I a) :: st) H := by
  intro p e s m args below meth c hC Hc locs ls hW hT hS hl
  have q9 := hp_eq ha hb
  exact lv_icmp_ne hC.1 hC.2.1 hd ht (fun q => kt (fun z => q (q9.mpr z)) p e s m args below meth c hC Hc locs ls hW hT hS hl) (fun q => kf (q9.mp q) p e s m args below meth c hC Hc locs ls hW hT hS hl)
theorem x_iclt {a b off : Int} {tgt : Nat} (hd : decode cc pc = .ok (.if_icmp .lt off, 3)) (ht : (pc : Int) + off = (tgt : Int)) (ha : hp_r a) (hb : hp_r b) (kt : a < b → hp_R G l cc nL ret own R v H' Z tgt L st H) (kf : ¬ a < b → hp_R G l cc nL ret own R v H' Z (pc + 3) L st H) : hp_R G l cc nL ret own R v H' Z pc L (.int (hp_I b) :: .int (hp_I a) :: st) H := by
  intro p e s m args below meth c hC Hc locs ls hW hT hS hl
  have q9 := hp_lt ha hb
  exact lv_icmp_lt hC.1 hC.2.1 hd ht (fun q => kt (q9.mp q) p e s m args below meth c hC Hc locs ls hW hT hS hl) (fun q => kf (fun z => q (q9.mpr z)) p e s m args below meth c hC Hc locs ls hW hT hS hl)
theorem x_icge {a b off : Int} {tgt : Nat} (hd : decode cc pc = .ok (.if_icmp .ge off, 3)) (ht : (pc : Int) + off = (tgt : Int)) (ha : hp_r a) (hb : hp_r b) (kt : ¬ a < b → hp_R G l cc nL ret own R v H' Z tgt L st H) (kf : a < b → hp_R G l cc nL ret own R v H' Z (pc + 3) L st H) : hp_R G l cc nL ret own R v H' Z pc L (.int (hp_I b) :: .int (hp_I a) :: st) H := by
  intro p e s m args below meth c hC Hc locs ls hW hT hS hl
  have q9 := hp_lt ha hb
  exact lv_icmp_ge hC.1 hC.2.1 hd ht (fun q => kt (fun z => Int32.not_le.mpr (q9.mpr z) q) p e s m args below meth c hC Hc locs ls hW hT hS hl) (fun q => kf (q9.mp (Int32.not_le.mp q)) p e s m args below meth c hC Hc locs ls hW hT hS hl)
theorem x_icgt {a b off : Int} {tgt : Nat} (hd : decode cc pc = .ok (.if_icmp .gt off, 3)) (ht : (pc : Int) + off = (tgt : Int)) (ha : hp_r a) (hb : hp_r b) (kt : b < a → hp_R G l cc nL ret own R v H' Z tgt L st H) (kf : ¬ b < a → hp_R G l cc nL ret own R v H' Z (pc + 3) L st H) : hp_R G l cc nL ret own R v H' Z pc L (.int (hp_I b) :: .int (hp_I a) :: st) H := by
  intro p e s m args below meth c hC Hc locs ls hW hT hS hl
  have q9 := hp_lt hb ha
  exact lv_icmp_gt hC.1 hC.2.1 hd ht (fun q => kt (q9.mp q) p e s m args below meth c hC Hc locs ls hW hT hS hl) (fun q => kf (fun z => q (q9.mpr z)) p e s m args below meth c hC Hc locs ls hW hT hS hl)
theorem x_icle {a b off : Int} {tgt : Nat} (hd : decode cc pc = .ok (.if_icmp .le off, 3)) (ht : (pc : Int) + off = (tgt : Int)) (ha : hp_r a) (hb : hp_r b) (kt : ¬ b < a → hp_R G l cc nL ret own R v H' Z tgt L st H) (kf : b < a → hp_R G l cc nL ret own R v H' Z (pc + 3) L st H) : hp_R G l cc nL ret own R v H' Z pc L (.int (hp_I b) :: .int (hp_I a) :: st) H := by
  intro p e s m args below meth c hC Hc locs ls hW hT hS hl
  have q9 := hp_lt hb ha
  exact lv_icmp_le hC.1 hC.2.1 hd ht (fun q => kt (fun z => Int32.not_le.mpr (q9.mpr z) q) p e s m args below meth c hC Hc locs ls hW hT hS hl) (fun q => kf (q9.mp (Int32.not_le.mp q)) p e s m args below meth c hC Hc locs ls hW hT hS hl)
theorem x_goto {off : Int} {tgt : Nat} (hd : decode cc pc = .ok (.goto off, 3)) (ht : (pc : Int) + off = (tgt : Int)) (k : hp_R G l cc nL ret own R v H' Z tgt L st H) : hp_R G l cc nL ret own R v H' Z pc L st H := by
  intro p e s m args below meth c hC Hc locs ls hW hT hS hl
  exact lv_goto hC.1 hC.2.1 hd ht (k p e s m args below meth c hC Hc locs ls hW hT hS hl)
theorem x_tabin {a dflt lo hi off : Int} {offs : Array Int} {len tgt : Nat} (c : Int) (hd : decode cc pc = .ok (.tableswitch dflt lo hi offs, len)) (hr : hp_r a) (hc : a = c) (h1 : ¬ c < lo) (h2 : ¬ hi < c) (ho : offs[(c - lo).toNat]? = some off) (ht : (pc : Int) + off = (tgt : Int)) (k : hp_R G l cc nL ret own R v H' Z tgt L st H) : hp_R G l cc nL ret own R v H' Z pc L (.int (hp_I a) :: st) H := by
  subst hc
  intro p e s m args below meth c hC Hc locs ls hW hT hS hl
  exact lv_tableIn hC.1 hC.2.1 hd (by rw [hp_It hr]; exact h1) (by rw [hp_It hr]; exact h2) (by rw [hp_It hr]; exact ho) ht (k p e s m args below meth c hC Hc locs ls hW hT hS hl)
theorem x_tabout {a dflt lo hi : Int} {offs : Array Int} {len tgt : Nat} (hd : decode cc pc = .ok (.tableswitch dflt lo hi offs, len)) (hr : hp_r a) (h : a < lo ∨ hi < a) (ht : (pc : Int) + dflt = (tgt : Int)) (k : hp_R G l cc nL ret own R v H' Z tgt L st H) : hp_R G l cc nL ret own R v H' Z pc L (.int (hp_I a) :: st) H := by
  intro p e s m args below meth c hC Hc locs ls hW hT hS hl
  exact lv_tableOut hC.1 hC.2.1 hd (by rw [hp_It hr]; exact h) ht (k p e s m args below meth c hC Hc locs ls hW hT hS hl)
theorem x_look {a dflt off : Int} {ps : Array (Int × Int)} {len tgt : Nat} (hd : decode cc pc = .ok (.lookupswitch dflt ps, len)) (hr : hp_r a) (hp : (ps.toList.zip (ps.toList.drop 1)).all (fun (a, next) => a.1 < next.1) = true) (ho : Op.lookupswitch.offset ps.toList dflt a = off) (ht : (pc : Int) + off = (tgt : Int)) (k : hp_R G l cc nL ret own R v H' Z tgt L st H) : hp_R G l cc nL ret own R v H' Z pc L (.int (hp_I a) :: st) H := by
  intro p e s m args below meth c hC Hc locs ls hW hT hS hl
  exact lv_lookup hC.1 hC.2.1 hd hp (by rw [hp_It hr]; exact ho) ht (k p e s m args below meth c hC Hc locs ls hW hT hS hl)
end HR
end
section
/-! rules: fields and arrays of the world -/
theorem hp_sl_get (G : hp_G) (h : Int → Int) : ∀ (fs : List (Option Int)) (j k : Nat), (hp_sl G h j fs)[k]? = (fs[k]?).map (fun o => match o with | none => .int (hp_I (h ((j + k : Nat) : Int))) | some a => .ref (hp_ad G a))
  | [], j, k => by simp [hp_sl]
  | none :: r, j, 0 => by simp [hp_sl]
  | some a :: r, j, 0 => by simp [hp_sl]
  | none :: r, j, k + 1 => by
    have := hp_sl_get G h r (j + 1) k
    simp only [hp_sl, List.getElem?_cons_succ]
    rw [this, show j + 1 + k = j + (k + 1) by omega]
  | some a :: r, j, k + 1 => by
    have := hp_sl_get G h r (j + 1) k
    simp only [hp_sl, List.getElem?_cons_succ]
    rw [this, show j + 1 + k = j + (k + 1) by omega]
theorem hp_sl_len (G : hp_G) (h : Int → Int) : ∀ (fs : List (Option Int)) (j : Nat), (hp_sl G h j fs).length = fs.length
  | [], j => by simp [hp_sl]
  | none :: r, j => by simp [hp_sl, hp_sl_len G h r (j + 1)]
  | some a :: r, j => by simp [hp_sl, hp_sl_len G h r (j + 1)]
theorem hp_sl_set {G : hp_G} {h h' : Int → Int} {fs : List (Option Int)} {k : Nat} {x : Int} (hf : fs[k]? = some none) (hk : h' (k : Int) = x) (ho : ∀ j : Nat, j ≠ k → h' (j : Int) = h (j : Int)) : (hp_sl G h 0 fs).set k (.int (hp_I x)) = hp_sl G h' 0 fs := by
  apply List.ext_getElem?
  intro j
  by_cases hj : j = k
  · subst hj
    have hl : j < (hp_sl G h 0 fs).length := by rw [hp_sl_len]; exact (List.getElem?_eq_some_iff.mp hf).1
    rw [List.getElem?_set_self hl, hp_sl_get, hf]
    simp [hk]
  · rw [List.getElem?_set_ne (Ne.symm hj), hp_sl_get, hp_sl_get]
    cases fs[j]? with
    | none => rfl
    | some o => cases o with
      | none => simp [ho j hj]
      | some a => rfl
theorem hp_ad_pos {G : hp_G} {a : Int} (h : 0 ≤ a) : hp_ad G a = G.2.1 + a.toNat := if_neg (Int.not_lt.mpr h)
theorem hp_up_self (H : hp_H) (a i v : Int) : hp_up H a i v a i = v := if_pos ⟨rfl, rfl⟩
theorem hp_up_ne {H : hp_H} {a i v b j : Int} (h : ¬ (b = a ∧ j = i)) : hp_up H a i v b j = H b j := if_neg h
theorem hp_wsg {G : hp_G} {H : hp_H} {a : Int} {sh : hp_S} (hs : (hp_sh G)[a.toNat]? = some sh) (h0 : 0 ≤ a) : (hp_ws G H)[a.toNat]? = some (hp_ad G a, hp_ce G sh (H a)) := by
  have h := hp_ws_get (H := H) hs
  rw [hp_tn h0] at h
  rw [hp_ad_pos h0]
  exact h
theorem hp_wss {G : hp_G} {H H' : hp_H} {a : Int} {sh : hp_S} {e : va_E} (hs : (hp_sh G)[a.toNat]? = some sh) (h0 : 0 ≤ a) (he : e = hp_ce G sh (H' a)) (ho : ∀ b : Int, b ≠ a → H' b = H b) : (hp_ws G H).set a.toNat (hp_ad G a, e) = hp_ws G H' := by
  rw [hp_ad_pos h0]
  refine hp_ws_set hs (by rw [hp_tn h0]; exact he) (fun j hj => ho _ (fun q => hj ?_))
  omega
section HB
variable {G : hp_G} {l : Launch} {cc : ByteArray} {nL : Nat} {ret : Option FieldType} {own : String} {R : Room} {v : Option Value} {H' : hp_H} {Z : Prop} {pc : Nat} {L L' : List (Nat × Value)} {st : List Value} {H : hp_H}
theorem x_get {a : Int} {ci : Nat} {fs : List (Option Int)} {C : String} {T : u_T} {N idx : Nat} (k : Nat) {w : Value} (hs : (hp_sh G)[a.toNat]? = some (0, ci, fs)) (h0 : 0 ≤ a) (hc : vwCl[ci]? = some (C, T, N)) (hin : ∀ w ∈ u_ws C T N, w ∈ hp_tb) (hk : k < N) (hw : (hp_sl G (H a) 0 fs)[k]? = some w) (hf : Cond.fieldLink own idx (T k).1 (T k).2.1 (T k).2.2.1 ∈ hp_tb) (hd : decode cc pc = .ok (.getfield idx, 3)) (kk : hp_R G l cc nL ret own R v H' Z (pc + 3) L (w :: st) H) : hp_R G l cc nL ret own R v H' Z pc L (.ref (hp_ad G a) :: st) H := by
  intro p e s m args below meth c hC Hc locs ls hW hT hS hl
  have he : (hp_ws G H)[a.toNat]? = some (hp_ad G a, .inr (ci, hp_sl G (H a) 0 fs)) := hp_wsg (sh := (0, ci, fs)) hs h0
  exact va_get (D := G.1) (ci := ci) (v := w) (C := C) (T := T) (N := N) hC.1 hC.2.1 hC.2.2.2.2.2.1 hin hC.2.2.2.2.1 hW.2.1 hW.1 a.toNat he hc k hk (hC.2.2.2.2.2.1 _ hf) (fun _ h9 => h9) hw hd (kk p e s m args below meth c hC Hc locs ls hW hT hS hl)
theorem x_geti {a : Int} {ci : Nat} {fs : List (Option Int)} {C : String} {T : u_T} {N idx : Nat} (k : Nat) (hs : (hp_sh G)[a.toNat]? = some (0, ci, fs)) (h0 : 0 ≤ a) (hc : vwCl[ci]? = some (C, T, N)) (hin : ∀ w ∈ u_ws C T N, w ∈ hp_tb) (hk : k < N) (hw : fs[k]? = some none) (hf : Cond.fieldLink own idx (T k).1 (T k).2.1 (T k).2.2.1 ∈ hp_tb) (hd : decode cc pc = .ok (.getfield idx, 3)) (kk : hp_R G l cc nL ret own R v H' Z (pc + 3) L (.int (hp_I (H a (k : Int))) :: st) H) : hp_R G l cc nL ret own R v H' Z pc L (.ref (hp_ad G a) :: st) H :=
  x_get k hs h0 hc hin hk (w := .int (hp_I (H a (k : Int)))) (by rw [hp_sl_get, hw]; simp) hf hd kk
theorem x_getr {a r : Int} {ci : Nat} {fs : List (Option Int)} {C : String} {T : u_T} {N idx : Nat} (k : Nat) (hs : (hp_sh G)[a.toNat]? = some (0, ci, fs)) (h0 : 0 ≤ a) (hc : vwCl[ci]? = some (C, T, N)) (hin : ∀ w ∈ u_ws C T N, w ∈ hp_tb) (hk : k < N) (hw : fs[k]? = some (some r)) (hf : Cond.fieldLink own idx (T k).1 (T k).2.1 (T k).2.2.1 ∈ hp_tb) (hd : decode cc pc = .ok (.getfield idx, 3)) (kk : hp_R G l cc nL ret own R v H' Z (pc + 3) L (.ref (hp_ad G r) :: st) H) : hp_R G l cc nL ret own R v H' Z pc L (.ref (hp_ad G a) :: st) H :=
  x_get k hs h0 hc hin hk (w := .ref (hp_ad G r)) (by rw [hp_sl_get, hw]; rfl) hf hd kk
theorem x_puti {a x : Int} {ci : Nat} {fs : List (Option Int)} {C : String} {T : u_T} {N idx : Nat} (k : Nat) (ty0 : Nat → FieldType) (hs : (hp_sh G)[a.toNat]? = some (0, ci, fs)) (h0 : 0 ≤ a) (hc : vwCl[ci]? = some (C, T, N)) (hin : ∀ w ∈ u_ws C T N, w ∈ hp_tb) (hty : ∀ k, k < N → parseFieldDescriptor (T k).2.2.1 = some (ty0 k)) (hnm : ∀ a, a < N → ∀ b, b < N → a ≠ b → (T a).2.1 ≠ (T b).2.1) (hk : k < N) (hi : ty0 k = .int) (hfin : (T k).2.2.2 = false) (hw : fs[k]? = some none) (hf : Cond.fieldLink own idx (T k).1 (T k).2.1 (T k).2.2.1 ∈ hp_tb) (hd : decode cc pc = .ok (.putfield idx, 3)) (kk : hp_R G l cc nL ret own R v H' Z (pc + 3) L st (hp_up H a (k : Int) x)) : hp_R G l cc nL ret own R v H' Z pc L (.int (hp_I x) :: .ref (hp_ad G a) :: st) H := by
  intro p e s m args below meth c hC Hc locs ls hW hT hS hl
  have he : (hp_ws G H)[a.toNat]? = some (hp_ad G a, .inr (ci, hp_sl G (H a) 0 fs)) := hp_wsg (sh := (0, ci, fs)) hs h0
  have hset : (hp_ws G H).set a.toNat (hp_ad G a, .inr (ci, (hp_sl G (H a) 0 fs).set k (.int (hp_I x)))) = hp_ws G (hp_up H a (k : Int) x) := by
    refine hp_wss (sh := (0, ci, fs)) hs h0 ?_ (fun b hb => funext fun j => hp_up_ne (fun q => hb q.1))
    show _ = Sum.inr (ci, hp_sl G (hp_up H a (k : Int) x a) 0 fs)
    rw [hp_sl_set (h' := hp_up H a (k : Int) x a) hw (hp_up_self H a k x) (fun j hj => hp_up_ne (fun q => hj (by have := q.2; omega)))]
  refine va_put (D := G.1) (ci := ci) (v := .int (hp_I x)) (ty := .int) (C := C) (T := T) (N := N) hC.1 hC.2.1 hC.2.2.2.2.2.1 hin ty0 hty hnm hC.2.2.2.2.1 hW.2.1 hW.1 hW.2.2.1 hS a.toNat he hc k hk (hC.2.2.2.2.2.1 _ hf) (fun _ h9 => h9) hfin (by rw [hty k hk, hi]) rfl rfl (by rw [hp_sl_len]; exact (List.getElem?_eq_some_iff.mp hw).1) hd (fun H1 locs1 hP1 hD1 hS1 => ?_)
  rw [hset] at hP1 hD1
  exact kk p e s m args below meth c hC H1 locs1 ls ⟨hP1, hW.2.1, hD1, hT.kept hS1.2.1⟩ hT hS1 hl
theorem x_iald {a i : Int} {n : Nat} {fs : List (Option Int)} (hs : (hp_sh G)[a.toNat]? = some (1, n, fs)) (h0 : 0 ≤ a) (hn : n ≤ 65536) (hi : 0 ≤ i ∧ i < n) (hd : decode cc pc = .ok (.iaload, 1)) (kk : hp_R G l cc nL ret own R v H' Z (pc + 1) L (.int (hp_I (H a i)) :: st) H) : hp_R G l cc nL ret own R v H' Z pc L (.int (hp_I i) :: .ref (hp_ad G a) :: st) H := by
  intro p e s m args below meth c hC Hc locs ls hW hT hS hl
  have he : (hp_ws G H)[a.toNat]? = some (hp_ad G a, .inl (G.2.2.1 0, n, .inl (fun j => hp_I (H a (j : Int))))) := hp_wsg (sh := (1, n, fs)) hs h0
  obtain ⟨h1, h2⟩ := hp_ix hi hn
  refine va_iald (D := G.1) hC.1 hC.2.1 hW.2.1 hW.1 a.toNat 0 he rfl h1 hd ?_
  rw [h2, hp_tn hi.1]
  exact kk p e s m args below meth c hC Hc locs ls hW hT hS hl
theorem x_zald {a i : Int} {n : Nat} {fs : List (Option Int)} (hs : (hp_sh G)[a.toNat]? = some (2, n, fs)) (h0 : 0 ≤ a) (hn : n ≤ 65536) (hi : 0 ≤ i ∧ i < n) (hd : decode cc pc = .ok (.baload, 1)) (kk : hp_R G l cc nL ret own R v H' Z (pc + 1) L (.int (hp_I (H a i)) :: st) H) : hp_R G l cc nL ret own R v H' Z pc L (.int (hp_I i) :: .ref (hp_ad G a) :: st) H := by
  intro p e s m args below meth c hC Hc locs ls hW hT hS hl
  have he : (hp_ws G H)[a.toNat]? = some (hp_ad G a, .inl (G.2.2.1 1, n, .inl (fun j => hp_I (H a (j : Int))))) := hp_wsg (sh := (2, n, fs)) hs h0
  obtain ⟨h1, h2⟩ := hp_ix hi hn
  refine va_zald (D := G.1) hC.1 hC.2.1 hW.2.1 hW.1 a.toNat 1 he rfl h1 hd ?_
  rw [h2, hp_tn hi.1]
  exact kk p e s m args below meth c hC Hc locs ls hW hT hS hl
theorem hp_updI {H : hp_H} {a i x : Int} (h0 : 0 ≤ i) : upd (fun j => hp_I (H a (j : Int))) i.toNat (hp_I x) = fun j : Nat => hp_I (hp_up H a i x a (j : Int)) := by
  funext j
  unfold upd hp_up
  by_cases hj : j = i.toNat
  · subst hj
    rw [if_pos rfl, if_pos ⟨rfl, hp_tn h0⟩]
  · rw [if_neg hj, if_neg (fun q => hj (by have := q.2; omega))]
theorem x_iast {a i x : Int} {n : Nat} {fs : List (Option Int)} (hs : (hp_sh G)[a.toNat]? = some (1, n, fs)) (h0 : 0 ≤ a) (hn : n ≤ 65536) (hi : 0 ≤ i ∧ i < n) (hd : decode cc pc = .ok (.iastore, 1)) (kk : hp_R G l cc nL ret own R v H' Z (pc + 1) L st (hp_up H a i x)) : hp_R G l cc nL ret own R v H' Z pc L (.int (hp_I x) :: .int (hp_I i) :: .ref (hp_ad G a) :: st) H := by
  intro p e s m args below meth c hC Hc locs ls hW hT hS hl
  have he : (hp_ws G H)[a.toNat]? = some (hp_ad G a, .inl (G.2.2.1 0, n, .inl (fun j => hp_I (H a (j : Int))))) := hp_wsg (sh := (1, n, fs)) hs h0
  obtain ⟨h1, h2⟩ := hp_ix hi hn
  have hset : (hp_ws G H).set a.toNat (hp_ad G a, .inl (G.2.2.1 0, n, .inl (upd (fun j => hp_I (H a (j : Int))) (hp_I i).toNatClampNeg (hp_I x)))) = hp_ws G (hp_up H a i x) := by
    refine hp_wss (sh := (1, n, fs)) hs h0 ?_ (fun b hb => funext fun j => hp_up_ne (fun q => hb q.1))
    rw [h2, hp_updI hi.1]
    rfl
  refine va_iast (D := G.1) hC.1 hC.2.1 hW.2.1 hW.1 hW.2.2.1 hS a.toNat 0 he rfl h1 hd (fun H1 locs1 hP1 hD1 hS1 => ?_)
  rw [hset] at hP1 hD1
  exact kk p e s m args below meth c hC H1 locs1 ls ⟨hP1, hW.2.1, hD1, hT.kept hS1.2.1⟩ hT hS1 hl
theorem x_zast {a i x : Int} {n : Nat} {fs : List (Option Int)} (hs : (hp_sh G)[a.toNat]? = some (2, n, fs)) (h0 : 0 ≤ a) (hn : n ≤ 65536) (hi : 0 ≤ i ∧ i < n) (hx : vp_nar .boolean (hp_I x) = hp_I x) (hd : decode cc pc = .ok (.bastore, 1)) (kk : hp_R G l cc nL ret own R v H' Z (pc + 1) L st (hp_up H a i x)) : hp_R G l cc nL ret own R v H' Z pc L (.int (hp_I x) :: .int (hp_I i) :: .ref (hp_ad G a) :: st) H := by
  intro p e s m args below meth c hC Hc locs ls hW hT hS hl
  have he : (hp_ws G H)[a.toNat]? = some (hp_ad G a, .inl (G.2.2.1 1, n, .inl (fun j => hp_I (H a (j : Int))))) := hp_wsg (sh := (2, n, fs)) hs h0
  obtain ⟨h1, h2⟩ := hp_ix hi hn
  have hset : (hp_ws G H).set a.toNat (hp_ad G a, .inl (G.2.2.1 1, n, .inl (upd (fun j => hp_I (H a (j : Int))) (hp_I i).toNatClampNeg (vp_nar .boolean (hp_I x))))) = hp_ws G (hp_up H a i x) := by
    refine hp_wss (sh := (2, n, fs)) hs h0 ?_ (fun b hb => funext fun j => hp_up_ne (fun q => hb q.1))
    rw [h2, hx, hp_updI hi.1]
    rfl
  refine va_zast (D := G.1) hC.1 hC.2.1 hW.2.1 hW.1 hW.2.2.1 hS a.toNat 1 he rfl h1 hd (fun H1 locs1 hP1 hD1 hS1 => ?_)
  rw [hset] at hP1 hD1
  exact kk p e s m args below meth c hC H1 locs1 ls ⟨hP1, hW.2.1, hD1, hT.kept hS1.2.1⟩ hT hS1 hl
/-- a Town out of an array of them, a row out of a table of ints -/
theorem x_aald3 {a i b0 b1 : Int} {n : Nat} (hs : (hp_sh G)[a.toNat]? = some (3, n, [some b0, some b1])) (h0 : 0 ≤ a) (hn : n ≤ 65536) (hi : 0 ≤ i ∧ i < n) (hd : decode cc pc = .ok (.aaload, 1)) (kk : hp_R G l cc nL ret own R v H' Z (pc + 1) L (.ref (hp_ad G (b0 + b1 * i)) :: st) H) : hp_R G l cc nL ret own R v H' Z pc L (.int (hp_I i) :: .ref (hp_ad G a) :: st) H := by
  intro p e s m args below meth c hC Hc locs ls hW hT hS hl
  have he : (hp_ws G H)[a.toNat]? = some (hp_ad G a, .inl (G.2.2.1 2, n, .inr (.inr (.inr (.inr (hp_rfs G [some b0, some b1])))))) := hp_wsg (sh := (3, n, [some b0, some b1])) hs h0
  obtain ⟨h1, h2⟩ := hp_ix hi hn
  refine va_aldq (D := G.1) hC.1 hC.2.1 hW.2.1 hW.1 a.toNat 2 he rfl h1 hd ?_
  rw [h2]
  have e9 : va_rf (hp_rfs G [some b0, some b1] i.toNat) = .ref (hp_ad G (b0 + b1 * i)) := by
    show Value.ref (hp_ad G (b0 + b1 * (i.toNat : Int))) = _
    rw [hp_tn hi.1]
  rw [e9]
  exact kk p e s m args below meth c hC Hc locs ls hW hT hS hl
theorem x_aald4 {a i b0 b1 : Int} {n : Nat} (hs : (hp_sh G)[a.toNat]? = some (4, n, [some b0, some b1])) (h0 : 0 ≤ a) (hn : n ≤ 65536) (hi : 0 ≤ i ∧ i < n) (hd : decode cc pc = .ok (.aaload, 1)) (kk : hp_R G l cc nL ret own R v H' Z (pc + 1) L (.ref (hp_ad G (b0 + b1 * i)) :: st) H) : hp_R G l cc nL ret own R v H' Z pc L (.int (hp_I i) :: .ref (hp_ad G a) :: st) H := by
  intro p e s m args below meth c hC Hc locs ls hW hT hS hl
  have he : (hp_ws G H)[a.toNat]? = some (hp_ad G a, .inl (G.2.2.1 3, n, .inr (.inr (.inr (.inr (hp_rfs G [some b0, some b1])))))) := hp_wsg (sh := (4, n, [some b0, some b1])) hs h0
  obtain ⟨h1, h2⟩ := hp_ix hi hn
  have hlt : (hp_I i).toNatClampNeg < n := Nat.not_le.mp fun q => h1 (Or.inr q)
  have e9 : va_rf (hp_rfs G [some b0, some b1] (hp_I i).toNatClampNeg) = .ref (hp_ad G (b0 + b1 * i)) := by
    rw [h2]
    show Value.ref (hp_ad G (b0 + b1 * (i.toNat : Int))) = _
    rw [hp_tn hi.1]
  refine W.aald (v := va_rf (hp_rfs G [some b0, some b1] (hp_I i).toNatClampNeg)) (ty := .array .int) hC.1 hC.2.1 (hW.1 _ _ he) ((hW.2.1.2 3 (G.2.2.1 3, .array .int) rfl).1 n (fun j => va_rf (hp_rfs G [some b0, some b1] j))) rfl (fun q => by cases q) (by show ¬ (_ ∨ (arrV _ _ _).slots.size ≤ _); rw [arrV_size]; exact h1) (by show (arrV _ _ _).slots[_]? = _; rw [arrV_read _ _ hlt]) rfl rfl hd ?_
  rw [e9]
  exact kk p e s m args below meth c hC Hc locs ls hW hT hS hl
/-- the static tables -/
theorem x_gets {idx : Nat} (k : Nat) (h1 : 1 ≤ k) (h2 : k ≤ 3) (hf : Cond.fieldLink own idx "HeelPost$Asks" (hp_sn k) "[I" ∈ hp_tb) (hd : decode cc pc = .ok (.getstatic idx, 3)) (kk : hp_R G l cc nL ret own R v H' Z (pc + 3) L (.ref (hp_ad G (-(k : Int))) :: st) H) : hp_R G l cc nL ret own R v H' Z pc L st H := by
  intro p e s m args below meth c hC Hc locs ls hW hT hS hl
  have e9 : hp_ad G (-(k : Int)) = G.2.2.2.1 k := by
    unfold hp_ad
    rw [if_pos (by omega), show (- -(k : Int)).toNat = k by omega]
  have k9 := kk p e s m args below meth c hC Hc locs ls hW hT hS hl
  rw [e9] at k9
  exact va_gets hC.1 hC.2.1 (hT.1 k h1 h2).1 hS hC.2.2.2.2.1 (hC.2.2.2.2.2.1 _ hf) (fun _ h9 => h9) hd k9
theorem x_tab {a i : Int} (ha : a = -1 ∨ a = -2 ∨ a = -3) (hi : 0 ≤ i ∧ i < 6) (hd : decode cc pc = .ok (.iaload, 1)) (kk : hp_R G l cc nL ret own R v H' Z (pc + 1) L (.int (hp_I (hp_tab a i)) :: st) H) : hp_R G l cc nL ret own R v H' Z pc L (.int (hp_I i) :: .ref (hp_ad G a) :: st) H := by
  intro p e s m args below meth c hC Hc locs ls hW hT hS hl
  obtain ⟨k, hk1, hk2, rfl⟩ : ∃ k : Nat, 1 ≤ k ∧ k ≤ 3 ∧ a = -(k : Int) := by
    rcases ha with h | h | h
    · exact ⟨1, by omega, by omega, h⟩
    · exact ⟨2, by omega, by omega, h⟩
    · exact ⟨3, by omega, by omega, h⟩
  have e9 : hp_ad G (-(k : Int)) = G.2.2.2.1 k := by
    unfold hp_ad
    rw [if_pos (by omega), show (- -(k : Int)).toNat = k by omega]
  obtain ⟨q1, q2⟩ := hp_ix (n := 6) hi (by omega)
  rw [e9]
  refine va_ti hC.1 hC.2.1 (hT.1 k hk1 hk2).2 hS q1 (v := .int (hp_I (hp_tab (-(k : Int)) i))) (by rw [q2, hp_tn hi.1]) hd ?_
  exact kk p e s m args below meth c hC Hc locs ls hW hT hS hl
end HB
end
section
/-! rules: ends, calls, the JDK's own -/
def hp_rm (d : Nat) : Room := { frames := d, cells := 0, slots := 0, locals := 64 * d }
theorem hp_W.fin {G : hp_G} {H : hp_H} {s t : State} {Hc : Heap} (h : hp_W G H s Hc) (ht : t.heap = Hc) (hW : s.WarmedH t.vm) : hp_W G H t t.heap := by
  rw [ht]
  exact ⟨h.1, va_K.moved hW.alike h.2.1, h.2.2.1, h.2.2.2.warm hW⟩
section HC
variable {G : hp_G} {l : Launch} {cc : ByteArray} {nL : Nat} {ret : Option FieldType} {own : String} {R : Room} {v : Option Value} {H' : hp_H} {Z : Prop} {pc : Nat} {L L' : List (Nat × Value)} {st : List Value} {H : hp_H}
theorem x_iret {x : Int} (hz : Z) (hd : decode cc pc = .ok (.ireturn, 1)) : hp_R G l cc nL (some .int) own R (some (.int (hp_I x))) H Z pc L [.int (hp_I x)] H := by
  intro p e s m args below meth c hC Hc locs ls hW hT hS hl
  have hlocks := hC.2.2.2.2.2.2
  exact W.iret hC.1 hC.2.1 hC.2.2.1 (fun t ht hw => ⟨⟨rfl, hz, hW.fin ht hw⟩, hS.F ht⟩) hS.2.2 hd
theorem x_zret {x : Int} (hz : Z) (hx : x = 0 ∨ x = 1) (hd : decode cc pc = .ok (.ireturn, 1)) : hp_R G l cc nL (some .boolean) own R (some (.int (hp_I x))) H Z pc L [.int (hp_I x)] H := by
  intro p e s m args below meth c hC Hc locs ls hW hT hS hl
  have hlocks := hC.2.2.2.2.2.2
  exact W.zret hC.1 hC.2.1 hC.2.2.1 (by rcases hx with rfl | rfl <;> rfl) (fun t ht hw => ⟨⟨rfl, hz, hW.fin ht hw⟩, hS.F ht⟩) hS.2.2 hd
theorem x_lret {x : Int} (hz : Z) (hd : decode cc pc = .ok (.lreturn, 1)) : hp_R G l cc nL (some .long) own R (some (.long (hp_J x))) H Z pc L [.long (hp_J x)] H := by
  intro p e s m args below meth c hC Hc locs ls hW hT hS hl
  have hlocks := hC.2.2.2.2.2.2
  exact W.lret hC.1 hC.2.1 hC.2.2.1 (fun t ht hw => ⟨⟨rfl, hz, hW.fin ht hw⟩, hS.F ht⟩) hS.2.2 hd
theorem x_vret (hz : Z) (hd : decode cc pc = .ok (.return_, 1)) : hp_R G l cc nL none own R none H Z pc L [] H := by
  intro p e s m args below meth c hC Hc locs ls hW hT hS hl
  have hlocks := hC.2.2.2.2.2.2
  exact W.vret hC.1 hC.2.1 hC.2.2.1 (fun t ht hw => ⟨⟨rfl, hz, hW.fin ht hw⟩, hS.F ht⟩) hS.2.2 hd
/-- behind a call -/
theorem hp_back {p : Program} {e : Env} {s : State} {m : MethodId} {args : Array Value} {below : List Frame} {meth : Method} {c : Code} {Hc : Heap} {locs : List Loc} {ls : Array Slot} {st0 : List Value} {v1 : Option Value} {H1 : hp_H} {Z1 : Prop} {a : Array Value} (hC : hp_C cc nL ret own p s m args meth c) (hr : va_Run p l e R s m args below meth c Hc locs 0 0 0 0 (F0 m pc ls st0) st (hp_Q G v1 H1 Z1 a) (hp_A G)) (hT : hp_St G s s.heap) (hS : va_S (hp_A G) s.heap Hc locs) (hl : lv_has ls nL L)
    (kk : Z1 → hp_R G l cc nL ret own R v H' Z (pc + 3) L (v1.toList ++ st) H1) : W p l e R s m args below meth c Hc locs 0 0 (MQ below (hp_Q G v H' Z) args s 0 0 (hp_A G)) (F0 m pc ls st0) := by
  intro T hTh X
  obtain ⟨v2, st₀, t, T', L2, h0, X', hL, e1, e2, ⟨⟨hv, hz, hw⟩, hf1, hf2⟩, go⟩ := hr T hTh X
  cases hv
  rw [h0] at hf1 hf2
  have hal : s.vm.Alike t.vm := by rw [← e2]; exact X'.warmed.alike
  have hS1 : va_S (hp_A G) s.heap T'.heap (locs ++ L2) := ⟨Nat.le_trans hS.1 (by rw [e1]; exact hf1), fun q h1 h2 => by rw [e1, hf2 q (Nat.lt_of_lt_of_le h1 hS.1) h2]; exact hS.2.1 q h1 h2, fun q hq => by
    rcases List.mem_append.mp hq with h | h
    · exact hS.2.2 q h
    · exact hL q h⟩
  have hW1 : hp_W G H1 s T'.heap := by
    rw [e1]
    exact ⟨hw.1, va_K.moved hal.symm hw.2.1, hw.2.2.1, hT.kept (fun q h1 h2 => by rw [← e1]; exact hS1.2.1 q h1 h2)⟩
  obtain ⟨t2, a1, b1⟩ := kk hz p e s m args below meth c hC T'.heap (locs ++ L2) ls hW1 hT hS1 hl T' rfl X'
  exact ⟨t2, go t2 a1, b1⟩
/-- what a method's own words say, once a method -/
def hp_cal (y : MethodName) (cy : ByteArray) (ny : Nat) (ry : Option FieldType) (n : Nat) : Prop :=
  Cond.code y cy ny ry ∈ hp_tb ∧ Cond.initialized y.cls ∈ hp_tb ∧ y.cls ≠ "java/lang/invoke/MethodHandle" ∧ y.cls ≠ "java/lang/invoke/VarHandle" ∧ (parseMethodDescriptor y.desc).map (fun d => d.parameters.length) = some n
theorem hp_pre {s : State} {Hc : Heap} {As : List Value} (hW : hp_W G H s Hc) : PreS s Hc (hp_Pc G As H) As :=
  ⟨hp_blind G As H, fun U hU hw => ⟨rfl, hW.fin hU hw⟩⟩
theorem hp_cb {s : State} {args : Array Value} {y : MethodName} {cy : ByteArray} {ny n idx d d2 : Nat} {ry : Option FieldType} (hts : ∀ w ∈ hp_tb, w.before args s = true) (hy : hp_cal y cy ny ry n) (hlink : Cond.methodLink own idx y ∈ hp_tb) (hR : d2 + 1 ≤ d ∧ 8 + (ny + 11) + 64 * d2 ≤ 64 * d) : CallB (hp_rm d) s args own idx y cy ny ry (hp_wd y cy ny ry) (hp_rm d2) 0 0 n :=
  callB_of n hts (hp_goodIn (fun _ h => h) hy.1) rfl rfl rfl (hts _ hy.2.1) (hts _ hlink) hy.2.2 hR
theorem x_iv {d d2 : Nat} {y : MethodName} {cy : ByteArray} {ny n idx ci : Nat} {ry : Option FieldType} {b : Int} {fs : List (Option Int)} {C : String} {T : u_T} {N : Nat} {As st0 : List Value} {v1 : Option Value} {H1 : hp_H} {Z1 : Prop} (hM : hp_M G l y cy ny ry (hp_rm d2) (.ref (hp_ad G b) :: As) H v1 H1 Z1) (hy : hp_cal y cy ny ry n) (hs : (hp_sh G)[b.toNat]? = some (0, ci, fs)) (h0 : 0 ≤ b) (hc : vwCl[ci]? = some (C, T, N)) (hyC : y.cls = C)
    (hinst : Cond.instanceMethod y ∈ hp_tb) (hsel : Cond.selects C y y ∈ hp_tb) (hlink : Cond.methodLink own idx y ∈ hp_tb) (hR : d2 + 1 ≤ d ∧ 8 + (ny + 11) + 64 * d2 ≤ 64 * d) (hn : As.length = n) (hst : st0 = As.reverse ++ .ref (hp_ad G b) :: st) (h8 : (st.map fun v => v.category).sum ≤ 8) (hd : decode cc pc = .ok (.invokevirtual idx, 3))
    (kk : Z1 → hp_R G l cc nL ret own (hp_rm d) v H' Z (pc + 3) L (v1.toList ++ st) H1) : hp_R G l cc nL ret own (hp_rm d) v H' Z pc L st0 H := by
  intro p e s m args below meth c hC Hc locs ls hW hT hS hl
  have he : (hp_ws G H)[b.toNat]? = some (hp_ad G b, .inr (ci, hp_sl G (H b) 0 fs)) := hp_wsg (sh := (0, ci, fs)) hs h0
  have hp := hp_pre (As := .ref (hp_ad G b) :: As) hW
  refine hp_back (a := (Value.ref (hp_ad G b) :: As).toArray) hC ?_ hT hS hl kk
  exact va_runV (As := As) (rest := st) (C := C) ⟨hC.1, hC.2.1, hC.2.2.2.1, hC.2.2.2.2.1, hC.2.2.2.2.2.1⟩ hM ⟨hp_cb hC.2.2.2.2.2.1 hy hlink hR, hC.2.2.2.2.2.1 _ hinst, hC.2.2.2.2.2.1 _ hsel⟩ ⟨hp.1, va_recv hW.2.1 hW.1 (ci := ci) hc he, hp.2⟩ rfl hn hl.1 hst (lv_room h8) hd ⟨Nat.le_refl _, Nat.le_refl _⟩
theorem x_is {d d2 : Nat} {y : MethodName} {cy : ByteArray} {ny n idx : Nat} {ry : Option FieldType} {As st0 : List Value} {v1 : Option Value} {H1 : hp_H} {Z1 : Prop} (hM : hp_M G l y cy ny ry (hp_rm d2) As H v1 H1 Z1) (hy : hp_cal y cy ny ry n)
    (hstat : Cond.static y ∈ hp_tb) (hlink : Cond.methodLink own idx y ∈ hp_tb) (hR : d2 + 1 ≤ d ∧ 8 + (ny + 11) + 64 * d2 ≤ 64 * d) (hn : As.length = n) (hst : st0 = As.reverse ++ st) (h8 : (st.map fun v => v.category).sum ≤ 8) (hd : decode cc pc = .ok (.invokestatic idx, 3))
    (kk : Z1 → hp_R G l cc nL ret own (hp_rm d) v H' Z (pc + 3) L (v1.toList ++ st) H1) : hp_R G l cc nL ret own (hp_rm d) v H' Z pc L st0 H := by
  intro p e s m args below meth c hC Hc locs ls hW hT hS hl
  refine hp_back (a := As.toArray) hC ?_ hT hS hl kk
  exact va_runS (As := As) (rest := st) ⟨hC.1, hC.2.1, hC.2.2.2.1, hC.2.2.2.2.1, hC.2.2.2.2.2.1⟩ hM ⟨hp_cb hC.2.2.2.2.2.1 hy hlink hR, hC.2.2.2.2.2.1 _ hstat⟩ (hp_pre hW) rfl hn hl.1 hst (lv_room h8) hd ⟨Nat.le_refl _, Nat.le_refl _⟩
/-- the nest mate's static method -/
theorem x_isN {d d2 : Nat} {cy : ByteArray} {ny n : Nat} {ry : Option FieldType} {As st0 : List Value} {v1 : Option Value} {H1 : hp_H} {Z1 : Prop} (hM : hp_M G l ⟨"HeelPost", "within", "(III)Z"⟩ cy ny ry (hp_rm d2) As H v1 H1 Z1) (hy : hp_cal ⟨"HeelPost", "within", "(III)Z"⟩ cy ny ry n)
    (hstat : Cond.static ⟨"HeelPost", "within", "(III)Z"⟩ ∈ hp_tb) (hR : d2 + 1 ≤ d ∧ 8 + (ny + 11) + 64 * d2 ≤ 64 * d) (hn : As.length = n) (hst : st0 = As.reverse ++ st) (h8 : (st.map fun v => v.category).sum ≤ 8) (hd : decode cc pc = .ok (.invokestatic 76, 3))
    (kk : Z1 → hp_R G l cc nL ret "HeelPost$Tape" (hp_rm d) v H' Z (pc + 3) L (v1.toList ++ st) H1) : hp_R G l cc nL ret "HeelPost$Tape" (hp_rm d) v H' Z pc L st0 H := by
  intro p e s m args below meth c hC Hc locs ls hW hT hS hl
  refine hp_back (a := As.toArray) hC ?_ hT hS hl kk
  exact va_runSN (As := As) (rest := st) ⟨hC.1, hC.2.1, hC.2.2.2.1, hC.2.2.2.2.1, hC.2.2.2.2.2.1⟩ hM ⟨va_cnB n hC.2.2.2.2.2.1 (hp_goodIn (fun _ h => h) hy.1) rfl rfl rfl hT.2 (hC.2.2.2.2.2.1 _ hy.2.1) hy.2.2 hR, hC.2.2.2.2.2.1 _ hstat, trivial⟩ (hp_pre hW) rfl hn hl.1 hst (lv_room h8) hd ⟨Nat.le_refl _, Nat.le_refl _⟩
theorem hp_maxI {a b : Int} (ha : hp_r a) (hb : hp_r b) : (if hp_I a < hp_I b then hp_I b else hp_I a) = hp_I (hp_max a b) := by
  unfold hp_max
  by_cases h : a < b
  · rw [if_pos ((hp_lt ha hb).mpr h), if_pos h]
  · rw [if_neg (fun q => h ((hp_lt ha hb).mp q)), if_neg h]
theorem hp_minI {a b : Int} (ha : hp_r a) (hb : hp_r b) : (if hp_I b < hp_I a then hp_I b else hp_I a) = hp_I (hp_min a b) := by
  unfold hp_min
  by_cases h : b < a
  · rw [if_pos ((hp_lt hb ha).mpr h), if_pos h]
  · rw [if_neg (fun q => h ((hp_lt hb ha).mp q)), if_neg h]
theorem hp_absI {a : Int} (ha : hp_r a) : (if 0 ≤ hp_I a then hp_I a else 0 - hp_I a) = hp_I (hp_abs a) := by
  unfold hp_abs
  show (if hp_I 0 ≤ hp_I a then hp_I a else hp_I 0 - hp_I a) = _
  by_cases h : 0 ≤ a
  · rw [if_pos ((hp_le hp_r0 ha).mpr h), if_pos h]
  · rw [if_neg (fun q => h ((hp_le hp_r0 ha).mp q)), if_neg h, hp_sub]
theorem hp_maxJ {a b : Int} (ha : hp_rl a) (hb : hp_rl b) : (if hp_J b < hp_J a then hp_J a else hp_J b) = hp_J (hp_max a b) := by
  unfold hp_max
  by_cases h : b < a
  · rw [if_pos ((hp_ltl hb ha).mpr h), if_neg (by omega)]
  · rw [if_neg (fun q => h ((hp_ltl hb ha).mp q))]
    by_cases h2 : a < b
    · rw [if_pos h2]
    · rw [if_neg h2, show a = b by omega]
theorem hp_rmax {a b : Int} (ha : hp_r a) (hb : hp_r b) : hp_r (hp_max a b) := hp_rite hb ha
theorem hp_rmin {a b : Int} (ha : hp_r a) (hb : hp_r b) : hp_r (hp_min a b) := hp_rite hb ha
theorem hp_rabs {a : Int} (ha : hp_r a) : hp_r (hp_abs a) := hp_rite ha (hp_rw _)
theorem hp_rmaxl {a b : Int} (ha : hp_rl a) (hb : hp_rl b) : hp_rl (hp_max a b) := hp_rlite hb ha
theorem x_max {d idx : Nat} {a b : Int} (ha : hp_r a) (hb : hp_r b) (hlink : Cond.methodLink own idx Lib.Math.max.name ∈ hp_tb) (hstat : Cond.static Lib.Math.max.name ∈ hp_tb) (hini : Cond.initialized "java/lang/Math" ∈ hp_tb) (hcode : Cond.code Lib.Math.max.name Lib.Math.max.code 2 (some .int) ∈ hp_tb) (hR : 1 ≤ d) (h8 : (st.map fun v => v.category).sum ≤ 8) (hd : decode cc pc = .ok (.invokestatic idx, 3)) (kk : hp_R G l cc nL ret own (hp_rm d) v H' Z (pc + 3) L (.int (hp_I (hp_max a b)) :: st) H) : hp_R G l cc nL ret own (hp_rm d) v H' Z pc L (.int (hp_I b) :: .int (hp_I a) :: st) H := by
  intro p e s m args below meth c hC Hc locs ls hW hT hS hl
  have hts := hC.2.2.2.2.2.1
  refine va_mmax hC.1 hC.2.1 (hC.2.2.2.1.trans hl.1.symm) hC.2.2.2.2.1 (hts _ hlink) (hts _ hstat) (hts _ hini) (hts _ hcode) hR (by show _ + 13 ≤ 64 * d; omega) (Nat.zero_le _) (Nat.zero_le _) hd ?_
  rw [hp_maxI ha hb]
  exact kk p e s m args below meth c hC Hc locs ls hW hT hS hl
theorem x_min {d idx : Nat} {a b : Int} (ha : hp_r a) (hb : hp_r b) (hlink : Cond.methodLink own idx Lib.Math.min.name ∈ hp_tb) (hstat : Cond.static Lib.Math.min.name ∈ hp_tb) (hini : Cond.initialized "java/lang/Math" ∈ hp_tb) (hcode : Cond.code Lib.Math.min.name Lib.Math.min.code 2 (some .int) ∈ hp_tb) (hR : 1 ≤ d) (h8 : (st.map fun v => v.category).sum ≤ 8) (hd : decode cc pc = .ok (.invokestatic idx, 3)) (kk : hp_R G l cc nL ret own (hp_rm d) v H' Z (pc + 3) L (.int (hp_I (hp_min a b)) :: st) H) : hp_R G l cc nL ret own (hp_rm d) v H' Z pc L (.int (hp_I b) :: .int (hp_I a) :: st) H := by
  intro p e s m args below meth c hC Hc locs ls hW hT hS hl
  have hts := hC.2.2.2.2.2.1
  refine va_mmin hC.1 hC.2.1 (hC.2.2.2.1.trans hl.1.symm) hC.2.2.2.2.1 (hts _ hlink) (hts _ hstat) (hts _ hini) (hts _ hcode) hR (by show _ + 13 ≤ 64 * d; omega) (Nat.zero_le _) (Nat.zero_le _) hd ?_
  rw [hp_minI ha hb]
  exact kk p e s m args below meth c hC Hc locs ls hW hT hS hl
theorem x_abs {d idx : Nat} {a : Int} (ha : hp_r a) (hlink : Cond.methodLink own idx Lib.Math.abs.name ∈ hp_tb) (hstat : Cond.static Lib.Math.abs.name ∈ hp_tb) (hini : Cond.initialized "java/lang/Math" ∈ hp_tb) (hcode : Cond.code Lib.Math.abs.name Lib.Math.abs.code 1 (some .int) ∈ hp_tb) (hR : 1 ≤ d) (h8 : (st.map fun v => v.category).sum ≤ 8) (hd : decode cc pc = .ok (.invokestatic idx, 3)) (kk : hp_R G l cc nL ret own (hp_rm d) v H' Z (pc + 3) L (.int (hp_I (hp_abs a)) :: st) H) : hp_R G l cc nL ret own (hp_rm d) v H' Z pc L (.int (hp_I a) :: st) H := by
  intro p e s m args below meth c hC Hc locs ls hW hT hS hl
  have hts := hC.2.2.2.2.2.1
  refine va_mabs hC.1 hC.2.1 (hC.2.2.2.1.trans hl.1.symm) hC.2.2.2.2.1 (hts _ hlink) (hts _ hstat) (hts _ hini) (hts _ hcode) hR (by show _ + 13 ≤ 64 * d; omega) (Nat.zero_le _) (Nat.zero_le _) hd ?_
  rw [hp_absI ha]
  exact kk p e s m args below meth c hC Hc locs ls hW hT hS hl
theorem x_maxl {d idx : Nat} {a b : Int} (ha : hp_rl a) (hb : hp_rl b) (hlink : Cond.methodLink own idx Lib.MathLoose.max_long.x ∈ hp_tb) (hstat : Cond.static Lib.MathLoose.max_long.x ∈ hp_tb) (hini : Cond.initialized "java/lang/Math" ∈ hp_tb) (hcode : Cond.code Lib.MathLoose.max_long.x Lib.MathLoose.max_long.code 4 (some .long) ∈ hp_tb) (hR : 1 ≤ d) (h8 : (st.map fun v => v.category).sum ≤ 8) (hd : decode cc pc = .ok (.invokestatic idx, 3)) (kk : hp_R G l cc nL ret own (hp_rm d) v H' Z (pc + 3) L (.long (hp_J (hp_max a b)) :: st) H) : hp_R G l cc nL ret own (hp_rm d) v H' Z pc L (.long (hp_J b) :: .long (hp_J a) :: st) H := by
  intro p e s m args below meth c hC Hc locs ls hW hT hS hl
  have hts := hC.2.2.2.2.2.1
  refine va_mmax_long hC.1 hC.2.1 (hC.2.2.2.1.trans hl.1.symm) hC.2.2.2.2.1 (hts _ hlink) (hts _ hstat) (hts _ hini) (hts _ hcode) hR (by show _ + 15 ≤ 64 * d; omega) (Nat.zero_le _) (Nat.zero_le _) hd ?_
  rw [hp_maxJ ha hb]
  exact kk p e s m args below meth c hC Hc locs ls hW hT hS hl
/-- System.arraycopy of ints -/
def hp_cpy (H : hp_H) (a i b j n : Int) : hp_H := fun c k => if c = b ∧ j ≤ k ∧ k < j + n then H a (i + (k - j)) else H c k
theorem hp_in_cpy {H : hp_H} {a i b j n : Int} (h : hp_in H) : hp_in (hp_cpy H a i b j n) := by
  intro c k
  unfold hp_cpy
  split
  · exact h _ _
  · exact h c k
theorem x_copy {d idx : Nat} {a i b j n : Int} {n0 n1 : Nat} {fs gs : List (Option Int)} (hs : (hp_sh G)[a.toNat]? = some (1, n0, fs)) (h0 : 0 ≤ a) (hs2 : (hp_sh G)[b.toNat]? = some (1, n1, gs)) (h02 : 0 ≤ b) (hn0 : n0 ≤ 65536) (hn1 : n1 ≤ 65536) (hi : 0 ≤ i) (hj : 0 ≤ j) (hn : 0 ≤ n) (hin : i + n ≤ n0) (hjn : j + n ≤ n1) (hlink : Cond.methodLink own idx arraycopyName ∈ hp_tb) (hnat : Cond.native arraycopyName ∈ hp_tb) (hstat : Cond.static arraycopyName ∈ hp_tb) (hini : Cond.initialized "java/lang/System" ∈ hp_tb) (hR : 1 ≤ d) (h8 : (st.map fun v => v.category).sum ≤ 8) (hd : decode cc pc = .ok (.invokestatic idx, 3)) (kk : hp_R G l cc nL ret own (hp_rm d) v H' Z (pc + 3) L st (hp_cpy H a i b j n)) : hp_R G l cc nL ret own (hp_rm d) v H' Z pc L (.int (hp_I n) :: .int (hp_I j) :: .ref (hp_ad G b) :: .int (hp_I i) :: .ref (hp_ad G a) :: st) H := by
  intro p e s m args below meth c hC Hc locs ls hW hT hS hl
  have hts := hC.2.2.2.2.2.1
  have he : (hp_ws G H)[a.toNat]? = some (hp_ad G a, .inl (G.2.2.1 0, n0, .inl (fun j => hp_I (H a (j : Int))))) := hp_wsg (sh := (1, n0, fs)) hs h0
  have he2 : (hp_ws G H)[b.toNat]? = some (hp_ad G b, .inl (G.2.2.1 0, n1, .inl (fun j => hp_I (H b (j : Int))))) := hp_wsg (sh := (1, n1, gs)) hs2 h02
  have r1 : hp_r i := by unfold hp_r; omega
  have r2 : hp_r j := by unfold hp_r; omega
  have r3 : hp_r n := by unfold hp_r; omega
  have c1 : (hp_I i).toNatClampNeg = i.toNat := by show (hp_I i).toInt.toNat = _; rw [hp_It r1]
  have c2 : (hp_I j).toNatClampNeg = j.toNat := by show (hp_I j).toInt.toNat = _; rw [hp_It r2]
  have c3 : (hp_I n).toNatClampNeg = n.toNat := by show (hp_I n).toInt.toNat = _; rw [hp_It r3]
  have hset : (hp_ws G H).set b.toNat (hp_ad G b, .inl (G.2.2.1 0, n1, .inl (va_cpy (fun j => hp_I (H a (j : Int))) (fun j => hp_I (H b (j : Int))) (hp_I i).toNatClampNeg (hp_I j).toNatClampNeg (hp_I n).toNatClampNeg))) = hp_ws G (hp_cpy H a i b j n) := by
    refine hp_wss (sh := (1, n1, gs)) hs2 h02 ?_ (fun b9 hb => funext fun k => if_neg (fun q => hb q.1))
    rw [c1, c2, c3]
    show _ = Sum.inl (G.2.2.1 0, n1, Sum.inl (fun k : Nat => hp_I (hp_cpy H a i b j n b (k : Int))))
    have hfun : va_cpy (fun j => hp_I (H a (j : Int))) (fun j => hp_I (H b (j : Int))) i.toNat j.toNat n.toNat = (fun k : Nat => hp_I (hp_cpy H a i b j n b (k : Int))) := by
      funext k
      unfold va_cpy hp_cpy
      by_cases hk : j.toNat ≤ k ∧ k < j.toNat + n.toNat
      · rw [if_pos hk, if_pos ⟨rfl, by omega, by omega⟩]
        show hp_I (H a ((i.toNat + (k - j.toNat) : Nat) : Int)) = _
        rw [show ((i.toNat + (k - j.toNat) : Nat) : Int) = i + ((k : Int) - j) by omega]
      · rw [if_neg hk, if_neg (fun q => hk (by omega))]
    rw [hfun]
  refine va_copyi (D := G.1) (ty := .int) hC.1 hC.2.1 (hC.2.2.2.1.trans hl.1.symm) hC.2.2.2.2.1 (hts _ hlink) (hts _ hnat) (hts _ hstat) (hts _ hini) hW.2.1 hW.1 hW.2.2.1 hS a.toNat b.toNat 0 0 he he2 rfl rfl rfl (fun q => by have := (hp_lt r1 hp_r0).mp q; omega) (fun q => by have := (hp_lt r2 hp_r0).mp q; omega) (fun q => by have := (hp_lt r3 hp_r0).mp q; omega) (by rw [c1, c3]; omega) (by rw [c2, c3]; omega) (fun _ _ => rfl) hR (by
    have : nativeFrameWords "java/lang/System" "arraycopy" 5 + 11 ≤ 40 := by decide
    show _ ≤ 64 * d
    omega) hd (fun H1 locs1 hP1 hD1 hS1 => ?_)
  rw [hset] at hP1 hD1
  exact kk p e s m args below meth c hC H1 locs1 ls ⟨hP1, hW.2.1, hD1, hT.kept hS1.2.1⟩ hT hS1 hl
end HC
end
