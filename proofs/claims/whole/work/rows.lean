section
/-- a private method of a class that the tables say can be made, by its rows of tables_1 -/
def lw_okq (q : MethodName × Nat) : Prop := (q.1.cls ≠ "java/lang/invoke/MethodHandle" ∧ q.1.cls ≠ "java/lang/invoke/VarHandle") ∧ Cond.instantiable q.1.cls q.2 ∈ tables_1 ∧ Cond.privateMethod q.1 ∈ tables_1 ∧ Cond.instanceMethod q.1 ∈ tables_1
theorem lw_p0 : lw_okq (⟨"NobodyCarries", "refuse", "(I)I"⟩, 10) := ⟨⟨by decide +kernel, by decide +kernel⟩, List.mem_of_getElem? (i := 18) (by decide +kernel), List.mem_of_getElem? (i := 302) (by decide +kernel), List.mem_of_getElem? (i := 303) (by decide +kernel)⟩
theorem lw_p1 : lw_okq (⟨"NobodyCarries$Letters", "signAt", "(I)I"⟩, 4) := ⟨⟨by decide +kernel, by decide +kernel⟩, List.mem_of_getElem? (i := 179) (by decide +kernel), List.mem_of_getElem? (i := 322) (by decide +kernel), List.mem_of_getElem? (i := 323) (by decide +kernel)⟩
theorem lw_p2 : lw_okq (⟨"NobodyCarries$Letters", "formOf", "(I)Ljava/lang/String;"⟩, 4) := ⟨⟨by decide +kernel, by decide +kernel⟩, List.mem_of_getElem? (i := 179) (by decide +kernel), List.mem_of_getElem? (i := 326) (by decide +kernel), List.mem_of_getElem? (i := 327) (by decide +kernel)⟩
theorem lw_p3 : lw_okq (⟨"NobodyCarries$Letters", "digitsAt", "(II)I"⟩, 4) := ⟨⟨by decide +kernel, by decide +kernel⟩, List.mem_of_getElem? (i := 179) (by decide +kernel), List.mem_of_getElem? (i := 387) (by decide +kernel), List.mem_of_getElem? (i := 388) (by decide +kernel)⟩
theorem lw_p4 : lw_okq (⟨"NobodyCarries$Letters", "valueOf", "(II)I"⟩, 4) := ⟨⟨by decide +kernel, by decide +kernel⟩, List.mem_of_getElem? (i := 179) (by decide +kernel), List.mem_of_getElem? (i := 391) (by decide +kernel), List.mem_of_getElem? (i := 392) (by decide +kernel)⟩
theorem lw_p5 : lw_okq (⟨"NobodyCarries", "tellStatements", "()I"⟩, 10) := ⟨⟨by decide +kernel, by decide +kernel⟩, List.mem_of_getElem? (i := 18) (by decide +kernel), List.mem_of_getElem? (i := 395) (by decide +kernel), List.mem_of_getElem? (i := 396) (by decide +kernel)⟩
theorem lw_p6 : lw_okq (⟨"NobodyCarries$Town", "hearPlaces", "(I)Z"⟩, 8) := ⟨⟨by decide +kernel, by decide +kernel⟩, List.mem_of_getElem? (i := 26) (by decide +kernel), List.mem_of_getElem? (i := 419) (by decide +kernel), List.mem_of_getElem? (i := 420) (by decide +kernel)⟩
theorem lw_p7 : lw_okq (⟨"NobodyCarries$Town", "highestPlace", "()I"⟩, 8) := ⟨⟨by decide +kernel, by decide +kernel⟩, List.mem_of_getElem? (i := 26) (by decide +kernel), List.mem_of_getElem? (i := 423) (by decide +kernel), List.mem_of_getElem? (i := 424) (by decide +kernel)⟩
theorem lw_p8 : lw_okq (⟨"NobodyCarries$Town", "hearWay", "(III)Z"⟩, 8) := ⟨⟨by decide +kernel, by decide +kernel⟩, List.mem_of_getElem? (i := 26) (by decide +kernel), List.mem_of_getElem? (i := 430) (by decide +kernel), List.mem_of_getElem? (i := 431) (by decide +kernel)⟩
theorem lw_p9 : lw_okq (⟨"NobodyCarries$Town", "hearPerson", "([I)Z"⟩, 8) := ⟨⟨by decide +kernel, by decide +kernel⟩, List.mem_of_getElem? (i := 26) (by decide +kernel), List.mem_of_getElem? (i := 438) (by decide +kernel), List.mem_of_getElem? (i := 439) (by decide +kernel)⟩
theorem lw_p10 : lw_okq (⟨"NobodyCarries$Town", "hearThing", "([I)Z"⟩, 8) := ⟨⟨by decide +kernel, by decide +kernel⟩, List.mem_of_getElem? (i := 26) (by decide +kernel), List.mem_of_getElem? (i := 442) (by decide +kernel), List.mem_of_getElem? (i := 443) (by decide +kernel)⟩
theorem lw_p11 : lw_okq (⟨"NobodyCarries$Town", "hasSpareRoom", "(II)Z"⟩, 8) := ⟨⟨by decide +kernel, by decide +kernel⟩, List.mem_of_getElem? (i := 26) (by decide +kernel), List.mem_of_getElem? (i := 516) (by decide +kernel), List.mem_of_getElem? (i := 517) (by decide +kernel)⟩
theorem lw_p12 : lw_okq (⟨"NobodyCarries$Town", "load", "(II)V"⟩, 8) := ⟨⟨by decide +kernel, by decide +kernel⟩, List.mem_of_getElem? (i := 26) (by decide +kernel), List.mem_of_getElem? (i := 520) (by decide +kernel), List.mem_of_getElem? (i := 521) (by decide +kernel)⟩
theorem lw_p13 : lw_okq (⟨"NobodyCarries$Mind", "leadFrom", "(II)V"⟩, 8) := ⟨⟨by decide +kernel, by decide +kernel⟩, List.mem_of_getElem? (i := 201) (by decide +kernel), List.mem_of_getElem? (i := 573) (by decide +kernel), List.mem_of_getElem? (i := 574) (by decide +kernel)⟩
theorem lw_p14 : lw_okq (⟨"NobodyCarries$Way", "append", "(II)V"⟩, 3) := ⟨⟨by decide +kernel, by decide +kernel⟩, List.mem_of_getElem? (i := 208) (by decide +kernel), List.mem_of_getElem? (i := 583) (by decide +kernel), List.mem_of_getElem? (i := 584) (by decide +kernel)⟩
theorem lw_p15 : lw_okq (⟨"NobodyCarries$Way", "nextToward", "(LNobodyCarries$Town;II)I"⟩, 3) := ⟨⟨by decide +kernel, by decide +kernel⟩, List.mem_of_getElem? (i := 208) (by decide +kernel), List.mem_of_getElem? (i := 587) (by decide +kernel), List.mem_of_getElem? (i := 588) (by decide +kernel)⟩
def lw_privs_1 : List (MethodName × Nat) := [(⟨"NobodyCarries", "refuse", "(I)I"⟩, 10), (⟨"NobodyCarries$Letters", "signAt", "(I)I"⟩, 4), (⟨"NobodyCarries$Letters", "formOf", "(I)Ljava/lang/String;"⟩, 4), (⟨"NobodyCarries$Letters", "digitsAt", "(II)I"⟩, 4), (⟨"NobodyCarries$Letters", "valueOf", "(II)I"⟩, 4), (⟨"NobodyCarries", "tellStatements", "()I"⟩, 10), (⟨"NobodyCarries$Town", "hearPlaces", "(I)Z"⟩, 8), (⟨"NobodyCarries$Town", "highestPlace", "()I"⟩, 8), (⟨"NobodyCarries$Town", "hearWay", "(III)Z"⟩, 8), (⟨"NobodyCarries$Town", "hearPerson", "([I)Z"⟩, 8), (⟨"NobodyCarries$Town", "hearThing", "([I)Z"⟩, 8), (⟨"NobodyCarries$Town", "hasSpareRoom", "(II)Z"⟩, 8), (⟨"NobodyCarries$Town", "load", "(II)V"⟩, 8), (⟨"NobodyCarries$Mind", "leadFrom", "(II)V"⟩, 8), (⟨"NobodyCarries$Way", "append", "(II)V"⟩, 3), (⟨"NobodyCarries$Way", "nextToward", "(LNobodyCarries$Town;II)I"⟩, 3)]
theorem lw_r1 : ∀ q ∈ lw_privs_1, lw_okq q := List.forall_mem_cons.mpr ⟨lw_p0, List.forall_mem_cons.mpr ⟨lw_p1, List.forall_mem_cons.mpr ⟨lw_p2, List.forall_mem_cons.mpr ⟨lw_p3, List.forall_mem_cons.mpr ⟨lw_p4, List.forall_mem_cons.mpr ⟨lw_p5, List.forall_mem_cons.mpr ⟨lw_p6, List.forall_mem_cons.mpr ⟨lw_p7, List.forall_mem_cons.mpr ⟨lw_p8, List.forall_mem_cons.mpr ⟨lw_p9, List.forall_mem_cons.mpr ⟨lw_p10, List.forall_mem_cons.mpr ⟨lw_p11, List.forall_mem_cons.mpr ⟨lw_p12, List.forall_mem_cons.mpr ⟨lw_p13, List.forall_mem_cons.mpr ⟨lw_p14, List.forall_mem_cons.mpr ⟨lw_p15, fun _ h => absurd h List.not_mem_nil⟩⟩⟩⟩⟩⟩⟩⟩⟩⟩⟩⟩⟩⟩⟩⟩
theorem lw_p16 : lw_okq (⟨"NobodyCarries$Mind", "carryAlong", "(II)Z"⟩, 8) := ⟨⟨by decide +kernel, by decide +kernel⟩, List.mem_of_getElem? (i := 201) (by decide +kernel), List.mem_of_getElem? (i := 603) (by decide +kernel), List.mem_of_getElem? (i := 604) (by decide +kernel)⟩
theorem lw_p17 : lw_okq (⟨"NobodyCarries$Mind", "lets", "(III)Z"⟩, 8) := ⟨⟨by decide +kernel, by decide +kernel⟩, List.mem_of_getElem? (i := 201) (by decide +kernel), List.mem_of_getElem? (i := 607) (by decide +kernel), List.mem_of_getElem? (i := 608) (by decide +kernel)⟩
theorem lw_p18 : lw_okq (⟨"NobodyCarries$Mind", "traceStep", "(II)I"⟩, 8) := ⟨⟨by decide +kernel, by decide +kernel⟩, List.mem_of_getElem? (i := 201) (by decide +kernel), List.mem_of_getElem? (i := 621) (by decide +kernel), List.mem_of_getElem? (i := 622) (by decide +kernel)⟩
theorem lw_p19 : lw_okq (⟨"NobodyCarries$Mind", "lastStart", "(III)I"⟩, 8) := ⟨⟨by decide +kernel, by decide +kernel⟩, List.mem_of_getElem? (i := 201) (by decide +kernel), List.mem_of_getElem? (i := 629) (by decide +kernel), List.mem_of_getElem? (i := 630) (by decide +kernel)⟩
theorem lw_p20 : lw_okq (⟨"NobodyCarries$Deal", "weigh", "(LNobodyCarries$Town;I)V"⟩, 2) := ⟨⟨by decide +kernel, by decide +kernel⟩, List.mem_of_getElem? (i := 254) (by decide +kernel), List.mem_of_getElem? (i := 678) (by decide +kernel), List.mem_of_getElem? (i := 679) (by decide +kernel)⟩
theorem lw_p21 : lw_okq (⟨"NobodyCarries$Deal", "bestFrom", "(LNobodyCarries$Town;II)I"⟩, 2) := ⟨⟨by decide +kernel, by decide +kernel⟩, List.mem_of_getElem? (i := 254) (by decide +kernel), List.mem_of_getElem? (i := 686) (by decide +kernel), List.mem_of_getElem? (i := 687) (by decide +kernel)⟩
theorem lw_p22 : lw_okq (⟨"NobodyCarries$Deal", "sumWith", "(III)I"⟩, 2) := ⟨⟨by decide +kernel, by decide +kernel⟩, List.mem_of_getElem? (i := 254) (by decide +kernel), List.mem_of_getElem? (i := 690) (by decide +kernel), List.mem_of_getElem? (i := 691) (by decide +kernel)⟩
theorem lw_p23 : lw_okq (⟨"NobodyCarries$Deal", "firstChoice", "(LNobodyCarries$Town;II)I"⟩, 2) := ⟨⟨by decide +kernel, by decide +kernel⟩, List.mem_of_getElem? (i := 254) (by decide +kernel), List.mem_of_getElem? (i := 699) (by decide +kernel), List.mem_of_getElem? (i := 700) (by decide +kernel)⟩
theorem lw_p24 : lw_okq (⟨"NobodyCarries$Mind", "drawFrom", "()I"⟩, 8) := ⟨⟨by decide +kernel, by decide +kernel⟩, List.mem_of_getElem? (i := 201) (by decide +kernel), List.mem_of_getElem? (i := 744) (by decide +kernel), List.mem_of_getElem? (i := 745) (by decide +kernel)⟩
theorem lw_p25 : lw_okq (⟨"NobodyCarries", "firstBadInLine", "()I"⟩, 10) := ⟨⟨by decide +kernel, by decide +kernel⟩, List.mem_of_getElem? (i := 18) (by decide +kernel), List.mem_of_getElem? (i := 760) (by decide +kernel), List.mem_of_getElem? (i := 761) (by decide +kernel)⟩
theorem lw_p26 : lw_okq (⟨"NobodyCarriesModel", "refuse", "(I)I"⟩, 28) := ⟨⟨by decide +kernel, by decide +kernel⟩, List.mem_of_getElem? (i := 781) (by decide +kernel), List.mem_of_getElem? (i := 878) (by decide +kernel), List.mem_of_getElem? (i := 879) (by decide +kernel)⟩
theorem lw_p27 : lw_okq (⟨"NobodyCarriesModel", "faultOfForm", "()I"⟩, 28) := ⟨⟨by decide +kernel, by decide +kernel⟩, List.mem_of_getElem? (i := 781) (by decide +kernel), List.mem_of_getElem? (i := 886) (by decide +kernel), List.mem_of_getElem? (i := 887) (by decide +kernel)⟩
theorem lw_p28 : lw_okq (⟨"NobodyCarriesModel", "goesBy", "()Z"⟩, 28) := ⟨⟨by decide +kernel, by decide +kernel⟩, List.mem_of_getElem? (i := 781) (by decide +kernel), List.mem_of_getElem? (i := 890) (by decide +kernel), List.mem_of_getElem? (i := 891) (by decide +kernel)⟩
theorem lw_p29 : lw_okq (⟨"NobodyCarriesModel", "must", "(I)Z"⟩, 28) := ⟨⟨by decide +kernel, by decide +kernel⟩, List.mem_of_getElem? (i := 781) (by decide +kernel), List.mem_of_getElem? (i := 894) (by decide +kernel), List.mem_of_getElem? (i := 895) (by decide +kernel)⟩
theorem lw_p30 : lw_okq (⟨"NobodyCarriesModel", "number", "(I)Z"⟩, 28) := ⟨⟨by decide +kernel, by decide +kernel⟩, List.mem_of_getElem? (i := 781) (by decide +kernel), List.mem_of_getElem? (i := 898) (by decide +kernel), List.mem_of_getElem? (i := 899) (by decide +kernel)⟩
theorem lw_p31 : lw_okq (⟨"NobodyCarriesModel", "isDigit", "()Z"⟩, 28) := ⟨⟨by decide +kernel, by decide +kernel⟩, List.mem_of_getElem? (i := 781) (by decide +kernel), List.mem_of_getElem? (i := 902) (by decide +kernel), List.mem_of_getElem? (i := 903) (by decide +kernel)⟩
def lw_privs_2 : List (MethodName × Nat) := [(⟨"NobodyCarries$Mind", "carryAlong", "(II)Z"⟩, 8), (⟨"NobodyCarries$Mind", "lets", "(III)Z"⟩, 8), (⟨"NobodyCarries$Mind", "traceStep", "(II)I"⟩, 8), (⟨"NobodyCarries$Mind", "lastStart", "(III)I"⟩, 8), (⟨"NobodyCarries$Deal", "weigh", "(LNobodyCarries$Town;I)V"⟩, 2), (⟨"NobodyCarries$Deal", "bestFrom", "(LNobodyCarries$Town;II)I"⟩, 2), (⟨"NobodyCarries$Deal", "sumWith", "(III)I"⟩, 2), (⟨"NobodyCarries$Deal", "firstChoice", "(LNobodyCarries$Town;II)I"⟩, 2), (⟨"NobodyCarries$Mind", "drawFrom", "()I"⟩, 8), (⟨"NobodyCarries", "firstBadInLine", "()I"⟩, 10), (⟨"NobodyCarriesModel", "refuse", "(I)I"⟩, 28), (⟨"NobodyCarriesModel", "faultOfForm", "()I"⟩, 28), (⟨"NobodyCarriesModel", "goesBy", "()Z"⟩, 28), (⟨"NobodyCarriesModel", "must", "(I)Z"⟩, 28), (⟨"NobodyCarriesModel", "number", "(I)Z"⟩, 28), (⟨"NobodyCarriesModel", "isDigit", "()Z"⟩, 28)]
theorem lw_r2 : ∀ q ∈ lw_privs_2, lw_okq q := List.forall_mem_cons.mpr ⟨lw_p16, List.forall_mem_cons.mpr ⟨lw_p17, List.forall_mem_cons.mpr ⟨lw_p18, List.forall_mem_cons.mpr ⟨lw_p19, List.forall_mem_cons.mpr ⟨lw_p20, List.forall_mem_cons.mpr ⟨lw_p21, List.forall_mem_cons.mpr ⟨lw_p22, List.forall_mem_cons.mpr ⟨lw_p23, List.forall_mem_cons.mpr ⟨lw_p24, List.forall_mem_cons.mpr ⟨lw_p25, List.forall_mem_cons.mpr ⟨lw_p26, List.forall_mem_cons.mpr ⟨lw_p27, List.forall_mem_cons.mpr ⟨lw_p28, List.forall_mem_cons.mpr ⟨lw_p29, List.forall_mem_cons.mpr ⟨lw_p30, List.forall_mem_cons.mpr ⟨lw_p31, fun _ h => absurd h List.not_mem_nil⟩⟩⟩⟩⟩⟩⟩⟩⟩⟩⟩⟩⟩⟩⟩⟩
theorem lw_p32 : lw_okq (⟨"NobodyCarriesModel", "comma", "(I)Z"⟩, 28) := ⟨⟨by decide +kernel, by decide +kernel⟩, List.mem_of_getElem? (i := 781) (by decide +kernel), List.mem_of_getElem? (i := 906) (by decide +kernel), List.mem_of_getElem? (i := 907) (by decide +kernel)⟩
theorem lw_p33 : lw_okq (⟨"NobodyCarriesModel", "takeFrom", "(LNobodyCarriesModel;)V"⟩, 28) := ⟨⟨by decide +kernel, by decide +kernel⟩, List.mem_of_getElem? (i := 781) (by decide +kernel), List.mem_of_getElem? (i := 912) (by decide +kernel), List.mem_of_getElem? (i := 913) (by decide +kernel)⟩
theorem lw_p34 : lw_okq (⟨"NobodyCarriesModel", "comes", "(I)Z"⟩, 28) := ⟨⟨by decide +kernel, by decide +kernel⟩, List.mem_of_getElem? (i := 781) (by decide +kernel), List.mem_of_getElem? (i := 919) (by decide +kernel), List.mem_of_getElem? (i := 920) (by decide +kernel)⟩
theorem lw_p35 : lw_okq (⟨"NobodyCarriesModel", "placesCome", "()Z"⟩, 28) := ⟨⟨by decide +kernel, by decide +kernel⟩, List.mem_of_getElem? (i := 781) (by decide +kernel), List.mem_of_getElem? (i := 923) (by decide +kernel), List.mem_of_getElem? (i := 924) (by decide +kernel)⟩
theorem lw_p36 : lw_okq (⟨"NobodyCarriesModel", "placesNeeded", "()I"⟩, 28) := ⟨⟨by decide +kernel, by decide +kernel⟩, List.mem_of_getElem? (i := 781) (by decide +kernel), List.mem_of_getElem? (i := 927) (by decide +kernel), List.mem_of_getElem? (i := 928) (by decide +kernel)⟩
theorem lw_p37 : lw_okq (⟨"NobodyCarriesModel", "wayComes", "()Z"⟩, 28) := ⟨⟨by decide +kernel, by decide +kernel⟩, List.mem_of_getElem? (i := 781) (by decide +kernel), List.mem_of_getElem? (i := 934) (by decide +kernel), List.mem_of_getElem? (i := 935) (by decide +kernel)⟩
theorem lw_p38 : lw_okq (⟨"NobodyCarriesModel", "isPlace", "(I)Z"⟩, 28) := ⟨⟨by decide +kernel, by decide +kernel⟩, List.mem_of_getElem? (i := 781) (by decide +kernel), List.mem_of_getElem? (i := 938) (by decide +kernel), List.mem_of_getElem? (i := 939) (by decide +kernel)⟩
theorem lw_p39 : lw_okq (⟨"NobodyCarriesModel", "personComes", "()Z"⟩, 28) := ⟨⟨by decide +kernel, by decide +kernel⟩, List.mem_of_getElem? (i := 781) (by decide +kernel), List.mem_of_getElem? (i := 942) (by decide +kernel), List.mem_of_getElem? (i := 943) (by decide +kernel)⟩
theorem lw_p40 : lw_okq (⟨"NobodyCarriesModel", "thingComes", "()Z"⟩, 28) := ⟨⟨by decide +kernel, by decide +kernel⟩, List.mem_of_getElem? (i := 781) (by decide +kernel), List.mem_of_getElem? (i := 946) (by decide +kernel), List.mem_of_getElem? (i := 947) (by decide +kernel)⟩
theorem lw_p41 : lw_okq (⟨"NobodyCarriesModel", "isPerson", "(I)Z"⟩, 28) := ⟨⟨by decide +kernel, by decide +kernel⟩, List.mem_of_getElem? (i := 781) (by decide +kernel), List.mem_of_getElem? (i := 950) (by decide +kernel), List.mem_of_getElem? (i := 951) (by decide +kernel)⟩
theorem lw_p42 : lw_okq (⟨"NobodyCarriesModel", "findFar", "()V"⟩, 28) := ⟨⟨by decide +kernel, by decide +kernel⟩, List.mem_of_getElem? (i := 781) (by decide +kernel), List.mem_of_getElem? (i := 958) (by decide +kernel), List.mem_of_getElem? (i := 959) (by decide +kernel)⟩
theorem lw_p43 : lw_okq (⟨"NobodyCarriesModel", "carriedBy", "(I)I"⟩, 28) := ⟨⟨by decide +kernel, by decide +kernel⟩, List.mem_of_getElem? (i := 781) (by decide +kernel), List.mem_of_getElem? (i := 967) (by decide +kernel), List.mem_of_getElem? (i := 968) (by decide +kernel)⟩
theorem lw_p44 : lw_okq (⟨"NobodyCarriesModel", "isThing", "(I)Z"⟩, 28) := ⟨⟨by decide +kernel, by decide +kernel⟩, List.mem_of_getElem? (i := 781) (by decide +kernel), List.mem_of_getElem? (i := 975) (by decide +kernel), List.mem_of_getElem? (i := 976) (by decide +kernel)⟩
theorem lw_p45 : lw_okq (⟨"NobodyCarriesModel", "mayNow", "(III)Z"⟩, 28) := ⟨⟨by decide +kernel, by decide +kernel⟩, List.mem_of_getElem? (i := 781) (by decide +kernel), List.mem_of_getElem? (i := 987) (by decide +kernel), List.mem_of_getElem? (i := 988) (by decide +kernel)⟩
theorem lw_p46 : lw_okq (⟨"NobodyCarriesModel", "isFree", "(II)Z"⟩, 28) := ⟨⟨by decide +kernel, by decide +kernel⟩, List.mem_of_getElem? (i := 781) (by decide +kernel), List.mem_of_getElem? (i := 991) (by decide +kernel), List.mem_of_getElem? (i := 992) (by decide +kernel)⟩
theorem lw_p47 : lw_okq (⟨"NobodyCarriesModel", "lets", "(IIIII)Z"⟩, 28) := ⟨⟨by decide +kernel, by decide +kernel⟩, List.mem_of_getElem? (i := 781) (by decide +kernel), List.mem_of_getElem? (i := 995) (by decide +kernel), List.mem_of_getElem? (i := 996) (by decide +kernel)⟩
def lw_privs_3 : List (MethodName × Nat) := [(⟨"NobodyCarriesModel", "comma", "(I)Z"⟩, 28), (⟨"NobodyCarriesModel", "takeFrom", "(LNobodyCarriesModel;)V"⟩, 28), (⟨"NobodyCarriesModel", "comes", "(I)Z"⟩, 28), (⟨"NobodyCarriesModel", "placesCome", "()Z"⟩, 28), (⟨"NobodyCarriesModel", "placesNeeded", "()I"⟩, 28), (⟨"NobodyCarriesModel", "wayComes", "()Z"⟩, 28), (⟨"NobodyCarriesModel", "isPlace", "(I)Z"⟩, 28), (⟨"NobodyCarriesModel", "personComes", "()Z"⟩, 28), (⟨"NobodyCarriesModel", "thingComes", "()Z"⟩, 28), (⟨"NobodyCarriesModel", "isPerson", "(I)Z"⟩, 28), (⟨"NobodyCarriesModel", "findFar", "()V"⟩, 28), (⟨"NobodyCarriesModel", "carriedBy", "(I)I"⟩, 28), (⟨"NobodyCarriesModel", "isThing", "(I)Z"⟩, 28), (⟨"NobodyCarriesModel", "mayNow", "(III)Z"⟩, 28), (⟨"NobodyCarriesModel", "isFree", "(II)Z"⟩, 28), (⟨"NobodyCarriesModel", "lets", "(IIIII)Z"⟩, 28)]
theorem lw_r3 : ∀ q ∈ lw_privs_3, lw_okq q := List.forall_mem_cons.mpr ⟨lw_p32, List.forall_mem_cons.mpr ⟨lw_p33, List.forall_mem_cons.mpr ⟨lw_p34, List.forall_mem_cons.mpr ⟨lw_p35, List.forall_mem_cons.mpr ⟨lw_p36, List.forall_mem_cons.mpr ⟨lw_p37, List.forall_mem_cons.mpr ⟨lw_p38, List.forall_mem_cons.mpr ⟨lw_p39, List.forall_mem_cons.mpr ⟨lw_p40, List.forall_mem_cons.mpr ⟨lw_p41, List.forall_mem_cons.mpr ⟨lw_p42, List.forall_mem_cons.mpr ⟨lw_p43, List.forall_mem_cons.mpr ⟨lw_p44, List.forall_mem_cons.mpr ⟨lw_p45, List.forall_mem_cons.mpr ⟨lw_p46, List.forall_mem_cons.mpr ⟨lw_p47, fun _ h => absurd h List.not_mem_nil⟩⟩⟩⟩⟩⟩⟩⟩⟩⟩⟩⟩⟩⟩⟩⟩
theorem lw_p48 : lw_okq (⟨"NobodyCarriesModel", "isOwner", "(II)Z"⟩, 28) := ⟨⟨by decide +kernel, by decide +kernel⟩, List.mem_of_getElem? (i := 781) (by decide +kernel), List.mem_of_getElem? (i := 999) (by decide +kernel), List.mem_of_getElem? (i := 1000) (by decide +kernel)⟩
theorem lw_p49 : lw_okq (⟨"NobodyCarriesModel", "isKin", "(II)Z"⟩, 28) := ⟨⟨by decide +kernel, by decide +kernel⟩, List.mem_of_getElem? (i := 781) (by decide +kernel), List.mem_of_getElem? (i := 1003) (by decide +kernel), List.mem_of_getElem? (i := 1004) (by decide +kernel)⟩
theorem lw_p50 : lw_okq (⟨"NobodyCarriesModel", "hasRoom", "(II)Z"⟩, 28) := ⟨⟨by decide +kernel, by decide +kernel⟩, List.mem_of_getElem? (i := 781) (by decide +kernel), List.mem_of_getElem? (i := 1014) (by decide +kernel), List.mem_of_getElem? (i := 1015) (by decide +kernel)⟩
theorem lw_p51 : lw_okq (⟨"NobodyCarriesModel", "sizeOn", "(I)I"⟩, 28) := ⟨⟨by decide +kernel, by decide +kernel⟩, List.mem_of_getElem? (i := 781) (by decide +kernel), List.mem_of_getElem? (i := 1018) (by decide +kernel), List.mem_of_getElem? (i := 1019) (by decide +kernel)⟩
theorem lw_p52 : lw_okq (⟨"NobodyCarriesModel", "findWays", "()V"⟩, 28) := ⟨⟨by decide +kernel, by decide +kernel⟩, List.mem_of_getElem? (i := 781) (by decide +kernel), List.mem_of_getElem? (i := 1050) (by decide +kernel), List.mem_of_getElem? (i := 1051) (by decide +kernel)⟩
theorem lw_p53 : lw_okq (⟨"NobodyCarriesModel", "soonestBy", "(III)I"⟩, 28) := ⟨⟨by decide +kernel, by decide +kernel⟩, List.mem_of_getElem? (i := 781) (by decide +kernel), List.mem_of_getElem? (i := 1054) (by decide +kernel), List.mem_of_getElem? (i := 1055) (by decide +kernel)⟩
theorem lw_p54 : lw_okq (⟨"NobodyCarriesModel", "findSoon", "(III)V"⟩, 28) := ⟨⟨by decide +kernel, by decide +kernel⟩, List.mem_of_getElem? (i := 781) (by decide +kernel), List.mem_of_getElem? (i := 1058) (by decide +kernel), List.mem_of_getElem? (i := 1059) (by decide +kernel)⟩
theorem lw_p55 : lw_okq (⟨"NobodyCarriesModel", "mayInMind", "(IIIII)Z"⟩, 28) := ⟨⟨by decide +kernel, by decide +kernel⟩, List.mem_of_getElem? (i := 781) (by decide +kernel), List.mem_of_getElem? (i := 1062) (by decide +kernel), List.mem_of_getElem? (i := 1063) (by decide +kernel)⟩
theorem lw_p56 : lw_okq (⟨"NobodyCarriesModel", "findOver", "(I)I"⟩, 28) := ⟨⟨by decide +kernel, by decide +kernel⟩, List.mem_of_getElem? (i := 781) (by decide +kernel), List.mem_of_getElem? (i := 1070) (by decide +kernel), List.mem_of_getElem? (i := 1071) (by decide +kernel)⟩
theorem lw_p57 : lw_okq (⟨"NobodyCarriesModel", "bringsFrom", "(IIII)I"⟩, 28) := ⟨⟨by decide +kernel, by decide +kernel⟩, List.mem_of_getElem? (i := 781) (by decide +kernel), List.mem_of_getElem? (i := 1074) (by decide +kernel), List.mem_of_getElem? (i := 1075) (by decide +kernel)⟩
theorem lw_p58 : lw_okq (⟨"NobodyCarriesModel", "isComeBy", "(II)Z"⟩, 28) := ⟨⟨by decide +kernel, by decide +kernel⟩, List.mem_of_getElem? (i := 781) (by decide +kernel), List.mem_of_getElem? (i := 1090) (by decide +kernel), List.mem_of_getElem? (i := 1091) (by decide +kernel)⟩
theorem lw_p59 : lw_okq (⟨"NobodyCarriesModel", "roundOf", "(II)I"⟩, 28) := ⟨⟨by decide +kernel, by decide +kernel⟩, List.mem_of_getElem? (i := 781) (by decide +kernel), List.mem_of_getElem? (i := 1098) (by decide +kernel), List.mem_of_getElem? (i := 1099) (by decide +kernel)⟩
theorem lw_p60 : lw_okq (⟨"NobodyCarriesModel", "moreOf", "(II)I"⟩, 28) := ⟨⟨by decide +kernel, by decide +kernel⟩, List.mem_of_getElem? (i := 781) (by decide +kernel), List.mem_of_getElem? (i := 1102) (by decide +kernel), List.mem_of_getElem? (i := 1103) (by decide +kernel)⟩
theorem lw_p61 : lw_okq (⟨"NobodyCarriesModel", "eachBy", "(I)I"⟩, 28) := ⟨⟨by decide +kernel, by decide +kernel⟩, List.mem_of_getElem? (i := 781) (by decide +kernel), List.mem_of_getElem? (i := 1110) (by decide +kernel), List.mem_of_getElem? (i := 1111) (by decide +kernel)⟩
theorem lw_p62 : lw_okq (⟨"NobodyCarriesModel", "seek", "(IIII)V"⟩, 28) := ⟨⟨by decide +kernel, by decide +kernel⟩, List.mem_of_getElem? (i := 781) (by decide +kernel), List.mem_of_getElem? (i := 1114) (by decide +kernel), List.mem_of_getElem? (i := 1115) (by decide +kernel)⟩
theorem lw_p63 : lw_okq (⟨"NobodyCarriesModel", "isInTime", "(I)Z"⟩, 28) := ⟨⟨by decide +kernel, by decide +kernel⟩, List.mem_of_getElem? (i := 781) (by decide +kernel), List.mem_of_getElem? (i := 1126) (by decide +kernel), List.mem_of_getElem? (i := 1127) (by decide +kernel)⟩
def lw_privs_4 : List (MethodName × Nat) := [(⟨"NobodyCarriesModel", "isOwner", "(II)Z"⟩, 28), (⟨"NobodyCarriesModel", "isKin", "(II)Z"⟩, 28), (⟨"NobodyCarriesModel", "hasRoom", "(II)Z"⟩, 28), (⟨"NobodyCarriesModel", "sizeOn", "(I)I"⟩, 28), (⟨"NobodyCarriesModel", "findWays", "()V"⟩, 28), (⟨"NobodyCarriesModel", "soonestBy", "(III)I"⟩, 28), (⟨"NobodyCarriesModel", "findSoon", "(III)V"⟩, 28), (⟨"NobodyCarriesModel", "mayInMind", "(IIIII)Z"⟩, 28), (⟨"NobodyCarriesModel", "findOver", "(I)I"⟩, 28), (⟨"NobodyCarriesModel", "bringsFrom", "(IIII)I"⟩, 28), (⟨"NobodyCarriesModel", "isComeBy", "(II)Z"⟩, 28), (⟨"NobodyCarriesModel", "roundOf", "(II)I"⟩, 28), (⟨"NobodyCarriesModel", "moreOf", "(II)I"⟩, 28), (⟨"NobodyCarriesModel", "eachBy", "(I)I"⟩, 28), (⟨"NobodyCarriesModel", "seek", "(IIII)V"⟩, 28), (⟨"NobodyCarriesModel", "isInTime", "(I)Z"⟩, 28)]
theorem lw_r4 : ∀ q ∈ lw_privs_4, lw_okq q := List.forall_mem_cons.mpr ⟨lw_p48, List.forall_mem_cons.mpr ⟨lw_p49, List.forall_mem_cons.mpr ⟨lw_p50, List.forall_mem_cons.mpr ⟨lw_p51, List.forall_mem_cons.mpr ⟨lw_p52, List.forall_mem_cons.mpr ⟨lw_p53, List.forall_mem_cons.mpr ⟨lw_p54, List.forall_mem_cons.mpr ⟨lw_p55, List.forall_mem_cons.mpr ⟨lw_p56, List.forall_mem_cons.mpr ⟨lw_p57, List.forall_mem_cons.mpr ⟨lw_p58, List.forall_mem_cons.mpr ⟨lw_p59, List.forall_mem_cons.mpr ⟨lw_p60, List.forall_mem_cons.mpr ⟨lw_p61, List.forall_mem_cons.mpr ⟨lw_p62, List.forall_mem_cons.mpr ⟨lw_p63, fun _ h => absurd h List.not_mem_nil⟩⟩⟩⟩⟩⟩⟩⟩⟩⟩⟩⟩⟩⟩⟩⟩
theorem lw_p64 : lw_okq (⟨"NobodyCarriesModel", "sumBy", "(I)I"⟩, 28) := ⟨⟨by decide +kernel, by decide +kernel⟩, List.mem_of_getElem? (i := 781) (by decide +kernel), List.mem_of_getElem? (i := 1134) (by decide +kernel), List.mem_of_getElem? (i := 1135) (by decide +kernel)⟩
theorem lw_p65 : lw_okq (⟨"NobodyCarriesModel", "change", "(II)V"⟩, 28) := ⟨⟨by decide +kernel, by decide +kernel⟩, List.mem_of_getElem? (i := 781) (by decide +kernel), List.mem_of_getElem? (i := 1142) (by decide +kernel), List.mem_of_getElem? (i := 1143) (by decide +kernel)⟩
theorem lw_p66 : lw_okq (⟨"NobodyCarriesModel", "draw", "(I)I"⟩, 28) := ⟨⟨by decide +kernel, by decide +kernel⟩, List.mem_of_getElem? (i := 781) (by decide +kernel), List.mem_of_getElem? (i := 1150) (by decide +kernel), List.mem_of_getElem? (i := 1151) (by decide +kernel)⟩
theorem lw_p67 : lw_okq (⟨"NobodyCarriesModel", "judged", "()I"⟩, 28) := ⟨⟨by decide +kernel, by decide +kernel⟩, List.mem_of_getElem? (i := 781) (by decide +kernel), List.mem_of_getElem? (i := 1165) (by decide +kernel), List.mem_of_getElem? (i := 1166) (by decide +kernel)⟩
def lw_privs_5 : List (MethodName × Nat) := [(⟨"NobodyCarriesModel", "sumBy", "(I)I"⟩, 28), (⟨"NobodyCarriesModel", "change", "(II)V"⟩, 28), (⟨"NobodyCarriesModel", "draw", "(I)I"⟩, 28), (⟨"NobodyCarriesModel", "judged", "()I"⟩, 28)]
theorem lw_r5 : ∀ q ∈ lw_privs_5, lw_okq q := List.forall_mem_cons.mpr ⟨lw_p64, List.forall_mem_cons.mpr ⟨lw_p65, List.forall_mem_cons.mpr ⟨lw_p66, List.forall_mem_cons.mpr ⟨lw_p67, fun _ h => absurd h List.not_mem_nil⟩⟩⟩⟩
def lw_privs : List (MethodName × Nat) := lw_privs_1 ++ (lw_privs_2 ++ (lw_privs_3 ++ (lw_privs_4 ++ (lw_privs_5))))
def lw_tbl : List Cond := k2_sels lw_privs ++ tables_1
theorem lw_privs_ok : ∀ q ∈ lw_privs, lw_okq q := by
  show ∀ q ∈ lw_privs_1 ++ (lw_privs_2 ++ (lw_privs_3 ++ (lw_privs_4 ++ (lw_privs_5)))), lw_okq q
  exact List.forall_mem_append.mpr ⟨lw_r1, List.forall_mem_append.mpr ⟨lw_r2, List.forall_mem_append.mpr ⟨lw_r3, List.forall_mem_append.mpr ⟨lw_r4, lw_r5⟩⟩⟩⟩
end
section
def RX0 : String := "NobodyCarries$Deal"
def TX0 : u_T := fun k => match k with
  | 0 => ("NobodyCarries$Deal", "gain", "[I", true)
  | _ => ("NobodyCarries$Deal", "best", "[I", true)
def tyX0 : Nat → FieldType := fun k => match k with
  | 0 => .array .int
  | _ => .array .int
abbrev wsX00 : List Cond := u_ws RX0 TX0 2
theorem nmX0 : ∀ a, a < 2 → ∀ b, b < 2 → a ≠ b → (TX0 a).2.1 ≠ (TX0 b).2.1 := by decide +kernel
theorem tyX0_ok : ∀ k, k < 2 → parseFieldDescriptor (TX0 k).2.2.1 = some (tyX0 k) := by decide +kernel
abbrev cX0_init : ByteArray := prog_2_method_1_code
def yX0_init : MethodName := ⟨RX0, "<init>", "()V"⟩
abbrev cX0_bestSum : ByteArray := prog_2_method_2_code
def yX0_bestSum : MethodName := ⟨RX0, "bestSum", "(LNobodyCarries$Town;I)I"⟩
abbrev cX0_weigh : ByteArray := prog_2_method_3_code
def yX0_weigh : MethodName := ⟨RX0, "weigh", "(LNobodyCarries$Town;I)V"⟩
abbrev cX0_bestFrom : ByteArray := prog_2_method_4_code
def yX0_bestFrom : MethodName := ⟨RX0, "bestFrom", "(LNobodyCarries$Town;II)I"⟩
abbrev cX0_sumWith : ByteArray := prog_2_method_5_code
def yX0_sumWith : MethodName := ⟨RX0, "sumWith", "(III)I"⟩
abbrev cX0_thingOf : ByteArray := prog_2_method_6_code
def yX0_thingOf : MethodName := ⟨RX0, "thingOf", "(LNobodyCarries$Town;I)I"⟩
abbrev cX0_firstChoice : ByteArray := prog_2_method_7_code
def yX0_firstChoice : MethodName := ⟨RX0, "firstChoice", "(LNobodyCarries$Town;II)I"⟩
def RX1 : String := "NobodyCarries$Letters"
def TX1 : u_T := fun k => match k with
  | 0 => ("NobodyCarries$Letters", "sign", "[I", true)
  | 1 => ("NobodyCarries$Letters", "number", "[I", true)
  | 2 => ("NobodyCarries$Letters", "length", "I", false)
  | _ => ("NobodyCarries$Letters", "kind", "I", false)
def tyX1 : Nat → FieldType := fun k => match k with
  | 0 => .array .int
  | 1 => .array .int
  | 2 => .int
  | _ => .int
abbrev wsX10 : List Cond := u_ws RX1 TX1 4
theorem nmX1 : ∀ a, a < 4 → ∀ b, b < 4 → a ≠ b → (TX1 a).2.1 ≠ (TX1 b).2.1 := by decide +kernel
theorem tyX1_ok : ∀ k, k < 4 → parseFieldDescriptor (TX1 k).2.2.1 = some (tyX1 k) := by decide +kernel
abbrev cX1_init : ByteArray := prog_3_method_1_code
def yX1_init : MethodName := ⟨RX1, "<init>", "()V"⟩
abbrev cX1_add : ByteArray := prog_3_method_2_code
def yX1_add : MethodName := ⟨RX1, "add", "(I)Z"⟩
abbrev cX1_firstBadSign : ByteArray := prog_3_method_3_code
def yX1_firstBadSign : MethodName := ⟨RX1, "firstBadSign", "()I"⟩
abbrev cX1_read : ByteArray := prog_3_method_4_code
def yX1_read : MethodName := ⟨RX1, "read", "(I)I"⟩
abbrev cX1_formOf : ByteArray := prog_3_method_5_code
def yX1_formOf : MethodName := ⟨RX1, "formOf", "(I)Ljava/lang/String;"⟩
abbrev cX1_signAt : ByteArray := prog_3_method_6_code
def yX1_signAt : MethodName := ⟨RX1, "signAt", "(I)I"⟩
abbrev cX1_digitsAt : ByteArray := prog_3_method_7_code
def yX1_digitsAt : MethodName := ⟨RX1, "digitsAt", "(II)I"⟩
abbrev cX1_valueOf : ByteArray := prog_3_method_8_code
def yX1_valueOf : MethodName := ⟨RX1, "valueOf", "(II)I"⟩
def RX2 : String := "NobodyCarries$Mind"
def TX2 : u_T := fun k => match k with
  | 0 => ("NobodyCarries$Mind", "town", "LNobodyCarries$Town;", true)
  | 1 => ("NobodyCarries$Mind", "ways", "[LNobodyCarries$Way;", true)
  | 2 => ("NobodyCarries$Mind", "soonestAt", "[I", true)
  | 3 => ("NobodyCarries$Mind", "carrier", "[I", true)
  | 4 => ("NobodyCarries$Mind", "traced", "I", false)
  | 5 => ("NobodyCarries$Mind", "rule", "I", false)
  | 6 => ("NobodyCarries$Mind", "freed", "I", false)
  | _ => ("NobodyCarries$Mind", "seed", "I", false)
def tyX2 : Nat → FieldType := fun k => match k with
  | 0 => .object "NobodyCarries$Town"
  | 1 => .array (.object "NobodyCarries$Way")
  | 2 => .array .int
  | 3 => .array .int
  | 4 => .int
  | 5 => .int
  | 6 => .int
  | _ => .int
abbrev wsX20 : List Cond := u_ws RX2 TX2 8
theorem nmX2 : ∀ a, a < 8 → ∀ b, b < 8 → a ≠ b → (TX2 a).2.1 ≠ (TX2 b).2.1 := by decide +kernel
theorem tyX2_ok : ∀ k, k < 8 → parseFieldDescriptor (TX2 k).2.2.1 = some (tyX2 k) := by decide +kernel
abbrev cX2_init : ByteArray := prog_4_method_1_code
def yX2_init : MethodName := ⟨RX2, "<init>", "(LNobodyCarries$Town;)V"⟩
abbrev cX2_recall : ByteArray := prog_4_method_2_code
def yX2_recall : MethodName := ⟨RX2, "recall", "()V"⟩
abbrev cX2_leadFrom : ByteArray := prog_4_method_3_code
def yX2_leadFrom : MethodName := ⟨RX2, "leadFrom", "(II)V"⟩
abbrev cX2_lets : ByteArray := prog_4_method_4_code
def yX2_lets : MethodName := ⟨RX2, "lets", "(III)Z"⟩
abbrev cX2_soonestOf : ByteArray := prog_4_method_5_code
def yX2_soonestOf : MethodName := ⟨RX2, "soonestOf", "(I)I"⟩
abbrev cX2_carryAlong : ByteArray := prog_4_method_6_code
def yX2_carryAlong : MethodName := ⟨RX2, "carryAlong", "(II)Z"⟩
abbrev cX2_traceBack : ByteArray := prog_4_method_7_code
def yX2_traceBack : MethodName := ⟨RX2, "traceBack", "(I)V"⟩
abbrev cX2_traceStep : ByteArray := prog_4_method_8_code
def yX2_traceStep : MethodName := ⟨RX2, "traceStep", "(II)I"⟩
abbrev cX2_lastStart : ByteArray := prog_4_method_9_code
def yX2_lastStart : MethodName := ⟨RX2, "lastStart", "(III)I"⟩
abbrev cX2_carrierAt : ByteArray := prog_4_method_10_code
def yX2_carrierAt : MethodName := ⟨RX2, "carrierAt", "(I)I"⟩
abbrev cX2_barredBits : ByteArray := prog_4_method_11_code
def yX2_barredBits : MethodName := ⟨RX2, "barredBits", "(I)I"⟩
abbrev cX2_somebodyComesBy : ByteArray := prog_4_method_12_code
def yX2_somebodyComesBy : MethodName := ⟨RX2, "somebodyComesBy", "(II)Z"⟩
abbrev cX2_isInTime : ByteArray := prog_4_method_13_code
def yX2_isInTime : MethodName := ⟨RX2, "isInTime", "(I)Z"⟩
abbrev cX2_sumOfSoonest : ByteArray := prog_4_method_14_code
def yX2_sumOfSoonest : MethodName := ⟨RX2, "sumOfSoonest", "()I"⟩
abbrev cX2_bestChange : ByteArray := prog_4_method_15_code
def yX2_bestChange : MethodName := ⟨RX2, "bestChange", "()I"⟩
abbrev cX2_inTimeOnDays : ByteArray := prog_4_method_16_code
def yX2_inTimeOnDays : MethodName := ⟨RX2, "inTimeOnDays", "(II)I"⟩
abbrev cX2_drawFrom : ByteArray := prog_4_method_17_code
def yX2_drawFrom : MethodName := ⟨RX2, "drawFrom", "()I"⟩
def RX3 : String := "NobodyCarries$Person"
def TX3 : u_T := fun k => match k with
  | 0 => ("NobodyCarries$Person", "at", "I", false)
  | 1 => ("NobodyCarries$Person", "to", "I", false)
  | 2 => ("NobodyCarries$Person", "from", "I", false)
  | 3 => ("NobodyCarries$Person", "kin", "I", false)
  | 4 => ("NobodyCarries$Person", "room", "I", false)
  | 5 => ("NobodyCarries$Person", "where", "I", false)
  | _ => ("NobodyCarries$Person", "clock", "I", false)
def tyX3 : Nat → FieldType := fun k => match k with
  | 0 => .int
  | 1 => .int
  | 2 => .int
  | 3 => .int
  | 4 => .int
  | 5 => .int
  | _ => .int
abbrev wsX30 : List Cond := u_ws RX3 TX3 7
theorem nmX3 : ∀ a, a < 7 → ∀ b, b < 7 → a ≠ b → (TX3 a).2.1 ≠ (TX3 b).2.1 := by decide +kernel
theorem tyX3_ok : ∀ k, k < 7 → parseFieldDescriptor (TX3 k).2.2.1 = some (tyX3 k) := by decide +kernel
abbrev cX3_init : ByteArray := prog_5_method_1_code
def yX3_init : MethodName := ⟨RX3, "<init>", "()V"⟩
abbrev cX3_becomeLike : ByteArray := prog_5_method_2_code
def yX3_becomeLike : MethodName := ⟨RX3, "becomeLike", "(LNobodyCarries$Person;)V"⟩
abbrev cX3_tellOf : ByteArray := prog_5_method_3_code
def yX3_tellOf : MethodName := ⟨RX3, "tellOf", "(I)I"⟩
def RX4 : String := "NobodyCarries$Thing"
def TX4 : u_T := fun k => match k with
  | 0 => ("NobodyCarries$Thing", "owner", "I", false)
  | 1 => ("NobodyCarries$Thing", "second", "I", false)
  | 2 => ("NobodyCarries$Thing", "at", "I", false)
  | 3 => ("NobodyCarries$Thing", "to", "I", false)
  | 4 => ("NobodyCarries$Thing", "size", "I", false)
  | 5 => ("NobodyCarries$Thing", "by", "I", false)
  | 6 => ("NobodyCarries$Thing", "worth", "I", false)
  | 7 => ("NobodyCarries$Thing", "place", "I", false)
  | 8 => ("NobodyCarries$Thing", "since", "I", false)
  | _ => ("NobodyCarries$Thing", "given", "I", false)
def tyX4 : Nat → FieldType := fun k => match k with
  | 0 => .int
  | 1 => .int
  | 2 => .int
  | 3 => .int
  | 4 => .int
  | 5 => .int
  | 6 => .int
  | 7 => .int
  | 8 => .int
  | _ => .int
abbrev wsX40 : List Cond := u_ws RX4 TX4 10
theorem nmX4 : ∀ a, a < 10 → ∀ b, b < 10 → a ≠ b → (TX4 a).2.1 ≠ (TX4 b).2.1 := by decide +kernel
theorem tyX4_ok : ∀ k, k < 10 → parseFieldDescriptor (TX4 k).2.2.1 = some (tyX4 k) := by decide +kernel
abbrev cX4_init : ByteArray := prog_6_method_1_code
def yX4_init : MethodName := ⟨RX4, "<init>", "()V"⟩
abbrev cX4_becomeLike : ByteArray := prog_6_method_2_code
def yX4_becomeLike : MethodName := ⟨RX4, "becomeLike", "(LNobodyCarries$Thing;)V"⟩
abbrev cX4_isOf : ByteArray := prog_6_method_3_code
def yX4_isOf : MethodName := ⟨RX4, "isOf", "(I)Z"⟩
abbrev cX4_tellOf : ByteArray := prog_6_method_4_code
def yX4_tellOf : MethodName := ⟨RX4, "tellOf", "(I)I"⟩
def RX5 : String := "NobodyCarries$Town"
def TX5 : u_T := fun k => match k with
  | 0 => ("NobodyCarries$Town", "people", "[LNobodyCarries$Person;", true)
  | 1 => ("NobodyCarries$Town", "goods", "[LNobodyCarries$Thing;", true)
  | 2 => ("NobodyCarries$Town", "way", "[I", true)
  | 3 => ("NobodyCarries$Town", "least", "[I", true)
  | 4 => ("NobodyCarries$Town", "places", "I", false)
  | 5 => ("NobodyCarries$Town", "persons", "I", false)
  | 6 => ("NobodyCarries$Town", "things", "I", false)
  | _ => ("NobodyCarries$Town", "law", "I", false)
def tyX5 : Nat → FieldType := fun k => match k with
  | 0 => .array (.object "NobodyCarries$Person")
  | 1 => .array (.object "NobodyCarries$Thing")
  | 2 => .array .int
  | 3 => .array .int
  | 4 => .int
  | 5 => .int
  | 6 => .int
  | _ => .int
abbrev wsX50 : List Cond := u_ws RX5 TX5 8
theorem nmX5 : ∀ a, a < 8 → ∀ b, b < 8 → a ≠ b → (TX5 a).2.1 ≠ (TX5 b).2.1 := by decide +kernel
theorem tyX5_ok : ∀ k, k < 8 → parseFieldDescriptor (TX5 k).2.2.1 = some (tyX5 k) := by decide +kernel
abbrev cX5_init : ByteArray := prog_7_method_1_code
def yX5_init : MethodName := ⟨RX5, "<init>", "()V"⟩
abbrev cX5_becomeLike : ByteArray := prog_7_method_2_code
def yX5_becomeLike : MethodName := ⟨RX5, "becomeLike", "(LNobodyCarries$Town;)V"⟩
abbrev cX5_isPlace : ByteArray := prog_7_method_3_code
def yX5_isPlace : MethodName := ⟨RX5, "isPlace", "(I)Z"⟩
abbrev cX5_isPerson : ByteArray := prog_7_method_4_code
def yX5_isPerson : MethodName := ⟨RX5, "isPerson", "(I)Z"⟩
abbrev cX5_isThing : ByteArray := prog_7_method_5_code
def yX5_isThing : MethodName := ⟨RX5, "isThing", "(I)Z"⟩
abbrev cX5_hear : ByteArray := prog_7_method_6_code
def yX5_hear : MethodName := ⟨RX5, "hear", "(I[I)Z"⟩
abbrev cX5_hearPlaces : ByteArray := prog_7_method_7_code
def yX5_hearPlaces : MethodName := ⟨RX5, "hearPlaces", "(I)Z"⟩
abbrev cX5_highestPlace : ByteArray := prog_7_method_8_code
def yX5_highestPlace : MethodName := ⟨RX5, "highestPlace", "()I"⟩
abbrev cX5_hearWay : ByteArray := prog_7_method_9_code
def yX5_hearWay : MethodName := ⟨RX5, "hearWay", "(III)Z"⟩
abbrev cX5_hearPerson : ByteArray := prog_7_method_10_code
def yX5_hearPerson : MethodName := ⟨RX5, "hearPerson", "([I)Z"⟩
abbrev cX5_hearThing : ByteArray := prog_7_method_11_code
def yX5_hearThing : MethodName := ⟨RX5, "hearThing", "([I)Z"⟩
abbrev cX5_measure : ByteArray := prog_7_method_12_code
def yX5_measure : MethodName := ⟨RX5, "measure", "()V"⟩
abbrev cX5_leastBetween : ByteArray := prog_7_method_13_code
def yX5_leastBetween : MethodName := ⟨RX5, "leastBetween", "(II)I"⟩
abbrev cX5_wayBetween : ByteArray := prog_7_method_14_code
def yX5_wayBetween : MethodName := ⟨RX5, "wayBetween", "(II)I"⟩
abbrev cX5_lawLets : ByteArray := prog_7_method_15_code
def yX5_lawLets : MethodName := ⟨RX5, "lawLets", "(IIIII)Z"⟩
abbrev cX5_fits : ByteArray := prog_7_method_16_code
def yX5_fits : MethodName := ⟨RX5, "fits", "(II)Z"⟩
abbrev cX5_letsCarry : ByteArray := prog_7_method_17_code
def yX5_letsCarry : MethodName := ⟨RX5, "letsCarry", "(III)Z"⟩
abbrev cX5_carriedBits : ByteArray := prog_7_method_18_code
def yX5_carriedBits : MethodName := ⟨RX5, "carriedBits", "(I)I"⟩
abbrev cX5_carriedThings : ByteArray := prog_7_method_19_code
def yX5_carriedThings : MethodName := ⟨RX5, "carriedThings", "()I"⟩
abbrev cX5_hasSpareRoom : ByteArray := prog_7_method_20_code
def yX5_hasSpareRoom : MethodName := ⟨RX5, "hasSpareRoom", "(II)Z"⟩
abbrev cX5_load : ByteArray := prog_7_method_21_code
def yX5_load : MethodName := ⟨RX5, "load", "(II)V"⟩
abbrev cX5_takeUp : ByteArray := prog_7_method_22_code
def yX5_takeUp : MethodName := ⟨RX5, "takeUp", "(II)Z"⟩
abbrev cX5_walkTo : ByteArray := prog_7_method_23_code
def yX5_walkTo : MethodName := ⟨RX5, "walkTo", "(II)Z"⟩
abbrev cX5_layDown : ByteArray := prog_7_method_24_code
def yX5_layDown : MethodName := ⟨RX5, "layDown", "(II)Z"⟩
abbrev cX5_handOver : ByteArray := prog_7_method_25_code
def yX5_handOver : MethodName := ⟨RX5, "handOver", "(III)Z"⟩
abbrev cX5_roundMinute : ByteArray := prog_7_method_26_code
def yX5_roundMinute : MethodName := ⟨RX5, "roundMinute", "(II)I"⟩
abbrev cX5_roundMore : ByteArray := prog_7_method_27_code
def yX5_roundMore : MethodName := ⟨RX5, "roundMore", "(II)I"⟩
abbrev cX5_strangerCanBring : ByteArray := prog_7_method_28_code
def yX5_strangerCanBring : MethodName := ⟨RX5, "strangerCanBring", "(I)Z"⟩
def RX6 : String := "NobodyCarries$Way"
def TX6 : u_T := fun k => match k with
  | 0 => ("NobodyCarries$Way", "place", "[I", true)
  | 1 => ("NobodyCarries$Way", "minute", "[I", true)
  | _ => ("NobodyCarries$Way", "length", "I", false)
def tyX6 : Nat → FieldType := fun k => match k with
  | 0 => .array .int
  | 1 => .array .int
  | _ => .int
abbrev wsX60 : List Cond := u_ws RX6 TX6 3
theorem nmX6 : ∀ a, a < 3 → ∀ b, b < 3 → a ≠ b → (TX6 a).2.1 ≠ (TX6 b).2.1 := by decide +kernel
theorem tyX6_ok : ∀ k, k < 3 → parseFieldDescriptor (TX6 k).2.2.1 = some (tyX6 k) := by decide +kernel
abbrev cX6_init : ByteArray := prog_8_method_1_code
def yX6_init : MethodName := ⟨RX6, "<init>", "()V"⟩
abbrev cX6_lead : ByteArray := prog_8_method_2_code
def yX6_lead : MethodName := ⟨RX6, "lead", "(LNobodyCarries$Town;III)V"⟩
abbrev cX6_append : ByteArray := prog_8_method_3_code
def yX6_append : MethodName := ⟨RX6, "append", "(II)V"⟩
abbrev cX6_nextToward : ByteArray := prog_8_method_4_code
def yX6_nextToward : MethodName := ⟨RX6, "nextToward", "(LNobodyCarries$Town;II)I"⟩
abbrev cX6_indexAt : ByteArray := prog_8_method_5_code
def yX6_indexAt : MethodName := ⟨RX6, "indexAt", "(I)I"⟩
def RX7 : String := "NobodyCarries"
def TX7 : u_T := fun k => match k with
  | 0 => ("NobodyCarries", "now", "LNobodyCarries$Town;", true)
  | 1 => ("NobodyCarries", "trial", "LNobodyCarries$Town;", true)
  | 2 => ("NobodyCarries", "kept", "LNobodyCarries$Town;", true)
  | 3 => ("NobodyCarries", "letters", "LNobodyCarries$Letters;", true)
  | 4 => ("NobodyCarries", "mind", "LNobodyCarries$Mind;", true)
  | 5 => ("NobodyCarries", "deal", "LNobodyCarries$Deal;", true)
  | 6 => ("NobodyCarries", "line", "[I", true)
  | 7 => ("NobodyCarries", "refusals", "[I", true)
  | 8 => ("NobodyCarries", "lined", "I", false)
  | _ => ("NobodyCarries", "imaged", "Z", false)
def tyX7 : Nat → FieldType := fun k => match k with
  | 0 => .object "NobodyCarries$Town"
  | 1 => .object "NobodyCarries$Town"
  | 2 => .object "NobodyCarries$Town"
  | 3 => .object "NobodyCarries$Letters"
  | 4 => .object "NobodyCarries$Mind"
  | 5 => .object "NobodyCarries$Deal"
  | 6 => .array .int
  | 7 => .array .int
  | 8 => .int
  | _ => .boolean
abbrev wsX70 : List Cond := u_ws RX7 TX7 10
theorem nmX7 : ∀ a, a < 10 → ∀ b, b < 10 → a ≠ b → (TX7 a).2.1 ≠ (TX7 b).2.1 := by decide +kernel
theorem tyX7_ok : ∀ k, k < 10 → parseFieldDescriptor (TX7 k).2.2.1 = some (tyX7 k) := by decide +kernel
abbrev cX7_init : ByteArray := prog_1_method_1_code
def yX7_init : MethodName := ⟨RX7, "<init>", "()V"⟩
abbrev cX7_letter : ByteArray := prog_1_method_2_code
def yX7_letter : MethodName := ⟨RX7, "letter", "(I)I"⟩
abbrev cX7_town : ByteArray := prog_1_method_3_code
def yX7_town : MethodName := ⟨RX7, "town", "()I"⟩
abbrev cX7_minutes : ByteArray := prog_1_method_4_code
def yX7_minutes : MethodName := ⟨RX7, "minutes", "(II)I"⟩
abbrev cX7_person : ByteArray := prog_1_method_5_code
def yX7_person : MethodName := ⟨RX7, "person", "(II)I"⟩
abbrev cX7_thing : ByteArray := prog_1_method_6_code
def yX7_thing : MethodName := ⟨RX7, "thing", "(II)I"⟩
abbrev cX7_law : ByteArray := prog_1_method_7_code
def yX7_law : MethodName := ⟨RX7, "law", "(I)I"⟩
abbrev cX7_may : ByteArray := prog_1_method_8_code
def yX7_may : MethodName := ⟨RX7, "may", "(III)I"⟩
abbrev cX7_take : ByteArray := prog_1_method_9_code
def yX7_take : MethodName := ⟨RX7, "take", "(II)I"⟩
abbrev cX7_go : ByteArray := prog_1_method_10_code
def yX7_go : MethodName := ⟨RX7, "go", "(II)I"⟩
abbrev cX7_lay : ByteArray := prog_1_method_11_code
def yX7_lay : MethodName := ⟨RX7, "lay", "(II)I"⟩
abbrev cX7_hand : ByteArray := prog_1_method_12_code
def yX7_hand : MethodName := ⟨RX7, "hand", "(III)I"⟩
abbrev cX7_tarry : ByteArray := prog_1_method_13_code
def yX7_tarry : MethodName := ⟨RX7, "tarry", "(II)I"⟩
abbrev cX7_give : ByteArray := prog_1_method_14_code
def yX7_give : MethodName := ⟨RX7, "give", "(II)I"⟩
abbrev cX7_there : ByteArray := prog_1_method_15_code
def yX7_there : MethodName := ⟨RX7, "there", "()I"⟩
abbrev cX7_soonest : ByteArray := prog_1_method_16_code
def yX7_soonest : MethodName := ⟨RX7, "soonest", "(I)I"⟩
abbrev cX7_over : ByteArray := prog_1_method_17_code
def yX7_over : MethodName := ⟨RX7, "over", "(II)I"⟩
abbrev cX7_bars : ByteArray := prog_1_method_18_code
def yX7_bars : MethodName := ⟨RX7, "bars", "(I)I"⟩
abbrev cX7_never : ByteArray := prog_1_method_19_code
def yX7_never : MethodName := ⟨RX7, "never", "()I"⟩
abbrev cX7_why : ByteArray := prog_1_method_20_code
def yX7_why : MethodName := ⟨RX7, "why", "(I)I"⟩
abbrev cX7_round : ByteArray := prog_1_method_21_code
def yX7_round : MethodName := ⟨RX7, "round", "(III)I"⟩
abbrev cX7_each : ByteArray := prog_1_method_22_code
def yX7_each : MethodName := ⟨RX7, "each", "(I)I"⟩
abbrev cX7_pay : ByteArray := prog_1_method_23_code
def yX7_pay : MethodName := ⟨RX7, "pay", "(I)I"⟩
abbrev cX7_fewest : ByteArray := prog_1_method_24_code
def yX7_fewest : MethodName := ⟨RX7, "fewest", "()I"⟩
abbrev cX7_beside : ByteArray := prog_1_method_25_code
def yX7_beside : MethodName := ⟨RX7, "beside", "()I"⟩
abbrev cX7_houses : ByteArray := prog_1_method_26_code
def yX7_houses : MethodName := ⟨RX7, "houses", "()I"⟩
abbrev cX7_days : ByteArray := prog_1_method_27_code
def yX7_days : MethodName := ⟨RX7, "days", "(II)I"⟩
abbrev cX7_row : ByteArray := prog_1_method_28_code
def yX7_row : MethodName := ⟨RX7, "row", "(I)I"⟩
abbrev cX7_judge : ByteArray := prog_1_method_29_code
def yX7_judge : MethodName := ⟨RX7, "judge", "()I"⟩
abbrev cX7_image : ByteArray := prog_1_method_30_code
def yX7_image : MethodName := ⟨RX7, "image", "()I"⟩
abbrev cX7_on : ByteArray := prog_1_method_31_code
def yX7_on : MethodName := ⟨RX7, "on", "()I"⟩
abbrev cX7_count : ByteArray := prog_1_method_32_code
def yX7_count : MethodName := ⟨RX7, "count", "(I)I"⟩
abbrev cX7_refuse : ByteArray := prog_1_method_33_code
def yX7_refuse : MethodName := ⟨RX7, "refuse", "(I)I"⟩
abbrev cX7_tellStatements : ByteArray := prog_1_method_34_code
def yX7_tellStatements : MethodName := ⟨RX7, "tellStatements", "()I"⟩
abbrev cX7_firstBadInLine : ByteArray := prog_1_method_35_code
def yX7_firstBadInLine : MethodName := ⟨RX7, "firstBadInLine", "()I"⟩
def RX8 : String := "NobodyCarriesModel"
def TX8 : u_T := fun k => match k with
  | 0 => ("NobodyCarriesModel", "letters", "[I", true)
  | 1 => ("NobodyCarriesModel", "letterMany", "I", false)
  | 2 => ("NobodyCarriesModel", "told", "[I", true)
  | 3 => ("NobodyCarriesModel", "toldMany", "I", false)
  | 4 => ("NobodyCarriesModel", "refused", "[I", true)
  | 5 => ("NobodyCarriesModel", "places", "I", false)
  | 6 => ("NobodyCarriesModel", "way", "[[I", true)
  | 7 => ("NobodyCarriesModel", "persons", "I", false)
  | 8 => ("NobodyCarriesModel", "person", "[[I", true)
  | 9 => ("NobodyCarriesModel", "things", "I", false)
  | 10 => ("NobodyCarriesModel", "thing", "[[I", true)
  | 11 => ("NobodyCarriesModel", "law", "I", false)
  | 12 => ("NobodyCarriesModel", "kept", "LNobodyCarriesModel;", false)
  | 13 => ("NobodyCarriesModel", "tried", "LNobodyCarriesModel;", false)
  | 14 => ("NobodyCarriesModel", "at", "I", false)
  | 15 => ("NobodyCarriesModel", "said", "[I", true)
  | 16 => ("NobodyCarriesModel", "saidMany", "I", false)
  | 17 => ("NobodyCarriesModel", "before", "LNobodyCarriesModel;", false)
  | 18 => ("NobodyCarriesModel", "far", "[[I", true)
  | 19 => ("NobodyCarriesModel", "stop", "[[I", true)
  | 20 => ("NobodyCarriesModel", "when", "[[I", true)
  | 21 => ("NobodyCarriesModel", "stops", "[I", true)
  | 22 => ("NobodyCarriesModel", "soon", "[I", true)
  | 23 => ("NobodyCarriesModel", "over", "[I", true)
  | 24 => ("NobodyCarriesModel", "has", "[I", true)
  | 25 => ("NobodyCarriesModel", "best", "[I", true)
  | 26 => ("NobodyCarriesModel", "bestSum", "I", false)
  | _ => ("NobodyCarriesModel", "drawn", "I", false)
def tyX8 : Nat → FieldType := fun k => match k with
  | 0 => .array .int
  | 1 => .int
  | 2 => .array .int
  | 3 => .int
  | 4 => .array .int
  | 5 => .int
  | 6 => .array (.array .int)
  | 7 => .int
  | 8 => .array (.array .int)
  | 9 => .int
  | 10 => .array (.array .int)
  | 11 => .int
  | 12 => .object "NobodyCarriesModel"
  | 13 => .object "NobodyCarriesModel"
  | 14 => .int
  | 15 => .array .int
  | 16 => .int
  | 17 => .object "NobodyCarriesModel"
  | 18 => .array (.array .int)
  | 19 => .array (.array .int)
  | 20 => .array (.array .int)
  | 21 => .array .int
  | 22 => .array .int
  | 23 => .array .int
  | 24 => .array .int
  | 25 => .array .int
  | 26 => .int
  | _ => .int
abbrev wsX80 : List Cond := u_ws RX8 TX8 28
theorem nmX8 : ∀ a, a < 28 → ∀ b, b < 28 → a ≠ b → (TX8 a).2.1 ≠ (TX8 b).2.1 := by decide +kernel
theorem tyX8_ok : ∀ k, k < 28 → parseFieldDescriptor (TX8 k).2.2.1 = some (tyX8 k) := by decide +kernel
abbrev cX8_init : ByteArray := prog_10_method_1_code
def yX8_init : MethodName := ⟨RX8, "<init>", "()V"⟩
abbrev cX8_refuse : ByteArray := prog_10_method_2_code
def yX8_refuse : MethodName := ⟨RX8, "refuse", "(I)I"⟩
abbrev cX8_in : ByteArray := prog_10_method_3_code
def yX8_in : MethodName := ⟨RX8, "in", "(III)Z"⟩
abbrev cX8_isPlace : ByteArray := prog_10_method_4_code
def yX8_isPlace : MethodName := ⟨RX8, "isPlace", "(I)Z"⟩
abbrev cX8_isPerson : ByteArray := prog_10_method_5_code
def yX8_isPerson : MethodName := ⟨RX8, "isPerson", "(I)Z"⟩
abbrev cX8_isThing : ByteArray := prog_10_method_6_code
def yX8_isThing : MethodName := ⟨RX8, "isThing", "(I)Z"⟩
abbrev cX8_letter : ByteArray := prog_10_method_7_code
def yX8_letter : MethodName := ⟨RX8, "letter", "(I)I"⟩
abbrev cX8_must : ByteArray := prog_10_method_8_code
def yX8_must : MethodName := ⟨RX8, "must", "(I)Z"⟩
abbrev cX8_isDigit : ByteArray := prog_10_method_9_code
def yX8_isDigit : MethodName := ⟨RX8, "isDigit", "()Z"⟩
abbrev cX8_number : ByteArray := prog_10_method_10_code
def yX8_number : MethodName := ⟨RX8, "number", "(I)Z"⟩
abbrev cX8_comma : ByteArray := prog_10_method_11_code
def yX8_comma : MethodName := ⟨RX8, "comma", "(I)Z"⟩
abbrev cX8_goesBy : ByteArray := prog_10_method_12_code
def yX8_goesBy : MethodName := ⟨RX8, "goesBy", "()Z"⟩
abbrev cX8_faultOfForm : ByteArray := prog_10_method_13_code
def yX8_faultOfForm : MethodName := ⟨RX8, "faultOfForm", "()I"⟩
abbrev cX8_placesNeeded : ByteArray := prog_10_method_14_code
def yX8_placesNeeded : MethodName := ⟨RX8, "placesNeeded", "()I"⟩
abbrev cX8_placesCome : ByteArray := prog_10_method_15_code
def yX8_placesCome : MethodName := ⟨RX8, "placesCome", "()Z"⟩
abbrev cX8_wayComes : ByteArray := prog_10_method_16_code
def yX8_wayComes : MethodName := ⟨RX8, "wayComes", "()Z"⟩
abbrev cX8_personComes : ByteArray := prog_10_method_17_code
def yX8_personComes : MethodName := ⟨RX8, "personComes", "()Z"⟩
abbrev cX8_thingComes : ByteArray := prog_10_method_18_code
def yX8_thingComes : MethodName := ⟨RX8, "thingComes", "()Z"⟩
abbrev cX8_comes : ByteArray := prog_10_method_19_code
def yX8_comes : MethodName := ⟨RX8, "comes", "(I)Z"⟩
abbrev cX8_town : ByteArray := prog_10_method_20_code
def yX8_town : MethodName := ⟨RX8, "town", "()I"⟩
abbrev cX8_findFar : ByteArray := prog_10_method_21_code
def yX8_findFar : MethodName := ⟨RX8, "findFar", "()V"⟩
abbrev cX8_minutes : ByteArray := prog_10_method_22_code
def yX8_minutes : MethodName := ⟨RX8, "minutes", "(II)I"⟩
abbrev cX8_person : ByteArray := prog_10_method_23_code
def yX8_person : MethodName := ⟨RX8, "person", "(II)I"⟩
abbrev cX8_carriedBy : ByteArray := prog_10_method_24_code
def yX8_carriedBy : MethodName := ⟨RX8, "carriedBy", "(I)I"⟩
abbrev cX8_thing : ByteArray := prog_10_method_25_code
def yX8_thing : MethodName := ⟨RX8, "thing", "(II)I"⟩
abbrev cX8_law : ByteArray := prog_10_method_26_code
def yX8_law : MethodName := ⟨RX8, "law", "(I)I"⟩
abbrev cX8_isOwner : ByteArray := prog_10_method_27_code
def yX8_isOwner : MethodName := ⟨RX8, "isOwner", "(II)Z"⟩
abbrev cX8_isKin : ByteArray := prog_10_method_28_code
def yX8_isKin : MethodName := ⟨RX8, "isKin", "(II)Z"⟩
abbrev cX8_lets : ByteArray := prog_10_method_29_code
def yX8_lets : MethodName := ⟨RX8, "lets", "(IIIII)Z"⟩
abbrev cX8_isFree : ByteArray := prog_10_method_30_code
def yX8_isFree : MethodName := ⟨RX8, "isFree", "(II)Z"⟩
abbrev cX8_mayNow : ByteArray := prog_10_method_31_code
def yX8_mayNow : MethodName := ⟨RX8, "mayNow", "(III)Z"⟩
abbrev cX8_may : ByteArray := prog_10_method_32_code
def yX8_may : MethodName := ⟨RX8, "may", "(III)I"⟩
abbrev cX8_sizeOn : ByteArray := prog_10_method_33_code
def yX8_sizeOn : MethodName := ⟨RX8, "sizeOn", "(I)I"⟩
abbrev cX8_hasRoom : ByteArray := prog_10_method_34_code
def yX8_hasRoom : MethodName := ⟨RX8, "hasRoom", "(II)Z"⟩
abbrev cX8_later : ByteArray := prog_10_method_35_code
def yX8_later : MethodName := ⟨RX8, "later", "(II)I"⟩
abbrev cX8_take : ByteArray := prog_10_method_36_code
def yX8_take : MethodName := ⟨RX8, "take", "(II)I"⟩
abbrev cX8_go : ByteArray := prog_10_method_37_code
def yX8_go : MethodName := ⟨RX8, "go", "(II)I"⟩
abbrev cX8_lay : ByteArray := prog_10_method_38_code
def yX8_lay : MethodName := ⟨RX8, "lay", "(II)I"⟩
abbrev cX8_hand : ByteArray := prog_10_method_39_code
def yX8_hand : MethodName := ⟨RX8, "hand", "(III)I"⟩
abbrev cX8_tarry : ByteArray := prog_10_method_40_code
def yX8_tarry : MethodName := ⟨RX8, "tarry", "(II)I"⟩
abbrev cX8_give : ByteArray := prog_10_method_41_code
def yX8_give : MethodName := ⟨RX8, "give", "(II)I"⟩
abbrev cX8_there : ByteArray := prog_10_method_42_code
def yX8_there : MethodName := ⟨RX8, "there", "()I"⟩
abbrev cX8_findWays : ByteArray := prog_10_method_43_code
def yX8_findWays : MethodName := ⟨RX8, "findWays", "()V"⟩
abbrev cX8_mayInMind : ByteArray := prog_10_method_44_code
def yX8_mayInMind : MethodName := ⟨RX8, "mayInMind", "(IIIII)Z"⟩
abbrev cX8_findSoon : ByteArray := prog_10_method_45_code
def yX8_findSoon : MethodName := ⟨RX8, "findSoon", "(III)V"⟩
abbrev cX8_soonestBy : ByteArray := prog_10_method_46_code
def yX8_soonestBy : MethodName := ⟨RX8, "soonestBy", "(III)I"⟩
abbrev cX8_soonest : ByteArray := prog_10_method_47_code
def yX8_soonest : MethodName := ⟨RX8, "soonest", "(I)I"⟩
abbrev cX8_bringsFrom : ByteArray := prog_10_method_48_code
def yX8_bringsFrom : MethodName := ⟨RX8, "bringsFrom", "(IIII)I"⟩
abbrev cX8_findOver : ByteArray := prog_10_method_49_code
def yX8_findOver : MethodName := ⟨RX8, "findOver", "(I)I"⟩
abbrev cX8_over : ByteArray := prog_10_method_50_code
def yX8_over : MethodName := ⟨RX8, "over", "(II)I"⟩
abbrev cX8_bars : ByteArray := prog_10_method_51_code
def yX8_bars : MethodName := ⟨RX8, "bars", "(I)I"⟩
abbrev cX8_never : ByteArray := prog_10_method_52_code
def yX8_never : MethodName := ⟨RX8, "never", "()I"⟩
abbrev cX8_isComeBy : ByteArray := prog_10_method_53_code
def yX8_isComeBy : MethodName := ⟨RX8, "isComeBy", "(II)Z"⟩
abbrev cX8_why : ByteArray := prog_10_method_54_code
def yX8_why : MethodName := ⟨RX8, "why", "(I)I"⟩
abbrev cX8_roundOf : ByteArray := prog_10_method_55_code
def yX8_roundOf : MethodName := ⟨RX8, "roundOf", "(II)I"⟩
abbrev cX8_moreOf : ByteArray := prog_10_method_56_code
def yX8_moreOf : MethodName := ⟨RX8, "moreOf", "(II)I"⟩
abbrev cX8_round : ByteArray := prog_10_method_57_code
def yX8_round : MethodName := ⟨RX8, "round", "(III)I"⟩
abbrev cX8_seek : ByteArray := prog_10_method_58_code
def yX8_seek : MethodName := ⟨RX8, "seek", "(IIII)V"⟩
abbrev cX8_eachBy : ByteArray := prog_10_method_59_code
def yX8_eachBy : MethodName := ⟨RX8, "eachBy", "(I)I"⟩
abbrev cX8_each : ByteArray := prog_10_method_60_code
def yX8_each : MethodName := ⟨RX8, "each", "(I)I"⟩
abbrev cX8_pay : ByteArray := prog_10_method_61_code
def yX8_pay : MethodName := ⟨RX8, "pay", "(I)I"⟩
abbrev cX8_isInTime : ByteArray := prog_10_method_62_code
def yX8_isInTime : MethodName := ⟨RX8, "isInTime", "(I)Z"⟩
abbrev cX8_fewest : ByteArray := prog_10_method_63_code
def yX8_fewest : MethodName := ⟨RX8, "fewest", "()I"⟩
abbrev cX8_sumBy : ByteArray := prog_10_method_64_code
def yX8_sumBy : MethodName := ⟨RX8, "sumBy", "(I)I"⟩
abbrev cX8_beside : ByteArray := prog_10_method_65_code
def yX8_beside : MethodName := ⟨RX8, "beside", "()I"⟩
abbrev cX8_change : ByteArray := prog_10_method_66_code
def yX8_change : MethodName := ⟨RX8, "change", "(II)V"⟩
abbrev cX8_houses : ByteArray := prog_10_method_67_code
def yX8_houses : MethodName := ⟨RX8, "houses", "()I"⟩
abbrev cX8_draw : ByteArray := prog_10_method_68_code
def yX8_draw : MethodName := ⟨RX8, "draw", "(I)I"⟩
abbrev cX8_days : ByteArray := prog_10_method_69_code
def yX8_days : MethodName := ⟨RX8, "days", "(II)I"⟩
abbrev cX8_row : ByteArray := prog_10_method_70_code
def yX8_row : MethodName := ⟨RX8, "row", "(I)I"⟩
abbrev cX8_judged : ByteArray := prog_10_method_71_code
def yX8_judged : MethodName := ⟨RX8, "judged", "()I"⟩
abbrev cX8_judge : ByteArray := prog_10_method_72_code
def yX8_judge : MethodName := ⟨RX8, "judge", "()I"⟩
abbrev cX8_copyAll : ByteArray := prog_10_method_73_code
def yX8_copyAll : MethodName := ⟨RX8, "copyAll", "([[I[[I)V"⟩
abbrev cX8_takeFrom : ByteArray := prog_10_method_74_code
def yX8_takeFrom : MethodName := ⟨RX8, "takeFrom", "(LNobodyCarriesModel;)V"⟩
abbrev cX8_image : ByteArray := prog_10_method_75_code
def yX8_image : MethodName := ⟨RX8, "image", "()I"⟩
abbrev cX8_on : ByteArray := prog_10_method_76_code
def yX8_on : MethodName := ⟨RX8, "on", "()I"⟩
abbrev cX8_count : ByteArray := prog_10_method_77_code
def yX8_count : MethodName := ⟨RX8, "count", "(I)I"⟩
def RJ9 : String := "java/lang/Math"
abbrev cJ9_max_7cf53 : ByteArray := prog_11_method_65_code
def yJ9_max_7cf53 : MethodName := ⟨RJ9, "max", "(II)I"⟩
abbrev cJ9_min_7cf53 : ByteArray := prog_11_method_69_code
def yJ9_min_7cf53 : MethodName := ⟨RJ9, "min", "(II)I"⟩
def RJ0 : String := "java/lang/String"
abbrev cJ0_length_8abf5 : ByteArray := prog_12_method_54_code
def yJ0_length_8abf5 : MethodName := ⟨RJ0, "length", "()I"⟩
abbrev cJ0_isEmpty_aae02 : ByteArray := prog_12_method_55_code
def yJ0_isEmpty_aae02 : MethodName := ⟨RJ0, "isEmpty", "()Z"⟩
abbrev cJ0_charAt_5068e : ByteArray := prog_12_method_56_code
def yJ0_charAt_5068e : MethodName := ⟨RJ0, "charAt", "(I)C"⟩
abbrev cJ0_coder_7d493 : ByteArray := prog_12_method_152_code
def yJ0_coder_7d493 : MethodName := ⟨RJ0, "coder", "()B"⟩
abbrev cJ0_isLatin1_aae02 : ByteArray := prog_12_method_154_code
def yJ0_isLatin1_aae02 : MethodName := ⟨RJ0, "isLatin1", "()Z"⟩
abbrev cJ0_checkIndex_df160 : ByteArray := prog_12_method_155_code
def yJ0_checkIndex_df160 : MethodName := ⟨RJ0, "checkIndex", "(II)V"⟩
def RJ1 : String := "java/lang/StringLatin1"
abbrev cJ1_charAt_3b067 : ByteArray := prog_13_method_2_code
def yJ1_charAt_3b067 : MethodName := ⟨RJ1, "charAt", "([BI)C"⟩
def RJ2 : String := "java/lang/StringUTF16"
abbrev cJ2_getChar_3b067 : ByteArray := prog_14_method_5_code
def yJ2_getChar_3b067 : MethodName := ⟨RJ2, "getChar", "([BI)C"⟩
abbrev cJ2_length_9d52b : ByteArray := prog_14_method_6_code
def yJ2_length_9d52b : MethodName := ⟨RJ2, "length", "([B)I"⟩
abbrev cJ2_charAt_3b067 : ByteArray := prog_14_method_83_code
def yJ2_charAt_3b067 : MethodName := ⟨RJ2, "charAt", "([BI)C"⟩
abbrev cJ2_checkIndex_2214a : ByteArray := prog_14_method_91_code
def yJ2_checkIndex_2214a : MethodName := ⟨RJ2, "checkIndex", "(I[B)V"⟩
def RJ10 : String := "java/lang/System"
def RJ7 : String := "java/util/Arrays"
abbrev cJ7_fill_53178 : ByteArray := prog_16_method_103_code
def yJ7_fill_53178 : MethodName := ⟨RJ7, "fill", "([II)V"⟩
def RJ3 : String := "jdk/internal/util/Preconditions"
abbrev cJ3_checkIndex_8e157 : ByteArray := prog_17_method_11_code
def yJ3_checkIndex_8e157 : MethodName := ⟨RJ3, "checkIndex", "(IILjava/util/function/BiFunction;)I"⟩
def RL : String := "NobodyCarriesLaw"
abbrev cL_law : ByteArray := code
end
section
theorem dX0_init_0 : decode cX0_init 0 = .ok (.aload_n 0, 1) := by decide +kernel
theorem dX0_init_1 : decode cX0_init 1 = .ok (.invokespecial 3, 3) := by decide +kernel
theorem dX0_init_4 : decode cX0_init 4 = .ok (.aload_n 0, 1) := by decide +kernel
theorem dX0_init_5 : decode cX0_init 5 = .ok (.bipush 36, 2) := by decide +kernel
theorem dX0_init_7 : decode cX0_init 7 = .ok (.newarray .int, 2) := by decide +kernel
theorem dX0_init_9 : decode cX0_init 9 = .ok (.putfield 9, 3) := by decide +kernel
theorem dX0_init_12 : decode cX0_init 12 = .ok (.aload_n 0, 1) := by decide +kernel
theorem dX0_init_13 : decode cX0_init 13 = .ok (.sipush 448, 3) := by decide +kernel
theorem dX0_init_16 : decode cX0_init 16 = .ok (.newarray .int, 2) := by decide +kernel
theorem dX0_init_18 : decode cX0_init 18 = .ok (.putfield 15, 3) := by decide +kernel
theorem dX0_init_21 : decode cX0_init 21 = .ok (.return_, 1) := by decide +kernel
theorem dX0_bestSum_0 : decode cX0_bestSum 0 = .ok (.aload_n 0, 1) := by decide +kernel
theorem dX0_bestSum_1 : decode cX0_bestSum 1 = .ok (.aload_n 1, 1) := by decide +kernel
theorem dX0_bestSum_2 : decode cX0_bestSum 2 = .ok (.iload_n 2, 1) := by decide +kernel
theorem dX0_bestSum_3 : decode cX0_bestSum 3 = .ok (.invokevirtual 18, 3) := by decide +kernel
theorem dX0_bestSum_6 : decode cX0_bestSum 6 = .ok (.aload_n 0, 1) := by decide +kernel
theorem dX0_bestSum_7 : decode cX0_bestSum 7 = .ok (.getfield 15, 3) := by decide +kernel
theorem dX0_bestSum_10 : decode cX0_bestSum 10 = .ok (.iconst 0, 1) := by decide +kernel
theorem dX0_bestSum_11 : decode cX0_bestSum 11 = .ok (.invokestatic 22, 3) := by decide +kernel
theorem dX0_bestSum_14 : decode cX0_bestSum 14 = .ok (.aload_n 1, 1) := by decide +kernel
theorem dX0_bestSum_15 : decode cX0_bestSum 15 = .ok (.getfield 28, 3) := by decide +kernel
theorem dX0_bestSum_18 : decode cX0_bestSum 18 = .ok (.iconst 1, 1) := by decide +kernel
theorem dX0_bestSum_19 : decode cX0_bestSum 19 = .ok (.isub, 1) := by decide +kernel
theorem dX0_bestSum_20 : decode cX0_bestSum 20 = .ok (.istore_n 3, 1) := by decide +kernel
theorem dX0_bestSum_21 : decode cX0_bestSum 21 = .ok (.iload_n 3, 1) := by decide +kernel
theorem dX0_bestSum_22 : decode cX0_bestSum 22 = .ok (.ifCond .lt 45, 3) := by decide +kernel
theorem dX0_bestSum_25 : decode cX0_bestSum 25 = .ok (.iconst 0, 1) := by decide +kernel
theorem dX0_bestSum_26 : decode cX0_bestSum 26 = .ok (.istore 4, 2) := by decide +kernel
theorem dX0_bestSum_28 : decode cX0_bestSum 28 = .ok (.iload 4, 2) := by decide +kernel
theorem dX0_bestSum_30 : decode cX0_bestSum 30 = .ok (.bipush 64, 2) := by decide +kernel
theorem dX0_bestSum_32 : decode cX0_bestSum 32 = .ok (.if_icmp .ge 29, 3) := by decide +kernel
theorem dX0_bestSum_35 : decode cX0_bestSum 35 = .ok (.aload_n 0, 1) := by decide +kernel
theorem dX0_bestSum_36 : decode cX0_bestSum 36 = .ok (.getfield 15, 3) := by decide +kernel
theorem dX0_bestSum_39 : decode cX0_bestSum 39 = .ok (.iload_n 3, 1) := by decide +kernel
theorem dX0_bestSum_40 : decode cX0_bestSum 40 = .ok (.bipush 64, 2) := by decide +kernel
theorem dX0_bestSum_42 : decode cX0_bestSum 42 = .ok (.imul, 1) := by decide +kernel
theorem dX0_bestSum_43 : decode cX0_bestSum 43 = .ok (.iload 4, 2) := by decide +kernel
theorem dX0_bestSum_45 : decode cX0_bestSum 45 = .ok (.iadd, 1) := by decide +kernel
theorem dX0_bestSum_46 : decode cX0_bestSum 46 = .ok (.aload_n 0, 1) := by decide +kernel
theorem dX0_bestSum_47 : decode cX0_bestSum 47 = .ok (.aload_n 1, 1) := by decide +kernel
theorem dX0_bestSum_48 : decode cX0_bestSum 48 = .ok (.iload_n 3, 1) := by decide +kernel
theorem dX0_bestSum_49 : decode cX0_bestSum 49 = .ok (.iload 4, 2) := by decide +kernel
theorem dX0_bestSum_51 : decode cX0_bestSum 51 = .ok (.invokevirtual 34, 3) := by decide +kernel
theorem dX0_bestSum_54 : decode cX0_bestSum 54 = .ok (.iastore, 1) := by decide +kernel
theorem dX0_bestSum_55 : decode cX0_bestSum 55 = .ok (.iinc 4 1, 3) := by decide +kernel
theorem dX0_bestSum_58 : decode cX0_bestSum 58 = .ok (.goto (-30), 3) := by decide +kernel
theorem dX0_bestSum_61 : decode cX0_bestSum 61 = .ok (.iinc 3 (-1), 3) := by decide +kernel
theorem dX0_bestSum_64 : decode cX0_bestSum 64 = .ok (.goto (-43), 3) := by decide +kernel
theorem dX0_bestSum_67 : decode cX0_bestSum 67 = .ok (.aload_n 0, 1) := by decide +kernel
theorem dX0_bestSum_68 : decode cX0_bestSum 68 = .ok (.getfield 15, 3) := by decide +kernel
theorem dX0_bestSum_71 : decode cX0_bestSum 71 = .ok (.iconst 0, 1) := by decide +kernel
theorem dX0_bestSum_72 : decode cX0_bestSum 72 = .ok (.iaload, 1) := by decide +kernel
theorem dX0_bestSum_73 : decode cX0_bestSum 73 = .ok (.ireturn, 1) := by decide +kernel
theorem dX0_weigh_0 : decode cX0_weigh 0 = .ok (.aload_n 0, 1) := by decide +kernel
theorem dX0_weigh_1 : decode cX0_weigh 1 = .ok (.getfield 9, 3) := by decide +kernel
theorem dX0_weigh_4 : decode cX0_weigh 4 = .ok (.ldc 38, 2) := by decide +kernel
theorem dX0_weigh_6 : decode cX0_weigh 6 = .ok (.invokestatic 22, 3) := by decide +kernel
theorem dX0_weigh_9 : decode cX0_weigh 9 = .ok (.iconst 0, 1) := by decide +kernel
theorem dX0_weigh_10 : decode cX0_weigh 10 = .ok (.istore_n 3, 1) := by decide +kernel
theorem dX0_weigh_11 : decode cX0_weigh 11 = .ok (.iload_n 3, 1) := by decide +kernel
theorem dX0_weigh_12 : decode cX0_weigh 12 = .ok (.aload_n 1, 1) := by decide +kernel
theorem dX0_weigh_13 : decode cX0_weigh 13 = .ok (.getfield 28, 3) := by decide +kernel
theorem dX0_weigh_16 : decode cX0_weigh 16 = .ok (.if_icmp .ge 74, 3) := by decide +kernel
theorem dX0_weigh_19 : decode cX0_weigh 19 = .ok (.iconst 0, 1) := by decide +kernel
theorem dX0_weigh_20 : decode cX0_weigh 20 = .ok (.istore 4, 2) := by decide +kernel
theorem dX0_weigh_22 : decode cX0_weigh 22 = .ok (.iload 4, 2) := by decide +kernel
theorem dX0_weigh_24 : decode cX0_weigh 24 = .ok (.aload_n 1, 1) := by decide +kernel
theorem dX0_weigh_25 : decode cX0_weigh 25 = .ok (.getfield 39, 3) := by decide +kernel
theorem dX0_weigh_28 : decode cX0_weigh 28 = .ok (.if_icmp .ge 56, 3) := by decide +kernel
theorem dX0_weigh_31 : decode cX0_weigh 31 = .ok (.iload_n 3, 1) := by decide +kernel
theorem dX0_weigh_32 : decode cX0_weigh 32 = .ok (.iload_n 2, 1) := by decide +kernel
theorem dX0_weigh_33 : decode cX0_weigh 33 = .ok (.if_icmp .eq 45, 3) := by decide +kernel
theorem dX0_weigh_36 : decode cX0_weigh 36 = .ok (.aload_n 1, 1) := by decide +kernel
theorem dX0_weigh_37 : decode cX0_weigh 37 = .ok (.iload_n 3, 1) := by decide +kernel
theorem dX0_weigh_38 : decode cX0_weigh 38 = .ok (.iload 4, 2) := by decide +kernel
theorem dX0_weigh_40 : decode cX0_weigh 40 = .ok (.invokevirtual 42, 3) := by decide +kernel
theorem dX0_weigh_43 : decode cX0_weigh 43 = .ok (.bipush (-9), 2) := by decide +kernel
theorem dX0_weigh_45 : decode cX0_weigh 45 = .ok (.if_icmp .eq 33, 3) := by decide +kernel
theorem dX0_weigh_48 : decode cX0_weigh 48 = .ok (.aload_n 0, 1) := by decide +kernel
theorem dX0_weigh_49 : decode cX0_weigh 49 = .ok (.getfield 9, 3) := by decide +kernel
theorem dX0_weigh_52 : decode cX0_weigh 52 = .ok (.iload_n 3, 1) := by decide +kernel
theorem dX0_weigh_53 : decode cX0_weigh 53 = .ok (.bipush 6, 2) := by decide +kernel
theorem dX0_weigh_55 : decode cX0_weigh 55 = .ok (.imul, 1) := by decide +kernel
theorem dX0_weigh_56 : decode cX0_weigh 56 = .ok (.iload 4, 2) := by decide +kernel
theorem dX0_weigh_58 : decode cX0_weigh 58 = .ok (.iadd, 1) := by decide +kernel
theorem dX0_weigh_59 : decode cX0_weigh 59 = .ok (.aload_n 1, 1) := by decide +kernel
theorem dX0_weigh_60 : decode cX0_weigh 60 = .ok (.getfield 46, 3) := by decide +kernel
theorem dX0_weigh_63 : decode cX0_weigh 63 = .ok (.iload 4, 2) := by decide +kernel
theorem dX0_weigh_65 : decode cX0_weigh 65 = .ok (.aaload, 1) := by decide +kernel
theorem dX0_weigh_66 : decode cX0_weigh 66 = .ok (.getfield 50, 3) := by decide +kernel
theorem dX0_weigh_69 : decode cX0_weigh 69 = .ok (.aload_n 1, 1) := by decide +kernel
theorem dX0_weigh_70 : decode cX0_weigh 70 = .ok (.iload_n 3, 1) := by decide +kernel
theorem dX0_weigh_71 : decode cX0_weigh 71 = .ok (.iload 4, 2) := by decide +kernel
theorem dX0_weigh_73 : decode cX0_weigh 73 = .ok (.invokevirtual 55, 3) := by decide +kernel
theorem dX0_weigh_76 : decode cX0_weigh 76 = .ok (.isub, 1) := by decide +kernel
theorem dX0_weigh_77 : decode cX0_weigh 77 = .ok (.iastore, 1) := by decide +kernel
theorem dX0_weigh_78 : decode cX0_weigh 78 = .ok (.iinc 4 1, 3) := by decide +kernel
theorem dX0_weigh_81 : decode cX0_weigh 81 = .ok (.goto (-59), 3) := by decide +kernel
theorem dX0_weigh_84 : decode cX0_weigh 84 = .ok (.iinc 3 1, 3) := by decide +kernel
theorem dX0_weigh_87 : decode cX0_weigh 87 = .ok (.goto (-76), 3) := by decide +kernel
theorem dX0_weigh_90 : decode cX0_weigh 90 = .ok (.return_, 1) := by decide +kernel
theorem dX0_bestFrom_0 : decode cX0_bestFrom 0 = .ok (.aload_n 0, 1) := by decide +kernel
theorem dX0_bestFrom_1 : decode cX0_bestFrom 1 = .ok (.getfield 15, 3) := by decide +kernel
theorem dX0_bestFrom_4 : decode cX0_bestFrom 4 = .ok (.iload_n 2, 1) := by decide +kernel
theorem dX0_bestFrom_5 : decode cX0_bestFrom 5 = .ok (.iconst 1, 1) := by decide +kernel
theorem dX0_bestFrom_6 : decode cX0_bestFrom 6 = .ok (.iadd, 1) := by decide +kernel
theorem dX0_bestFrom_7 : decode cX0_bestFrom 7 = .ok (.bipush 64, 2) := by decide +kernel
theorem dX0_bestFrom_9 : decode cX0_bestFrom 9 = .ok (.imul, 1) := by decide +kernel
theorem dX0_bestFrom_10 : decode cX0_bestFrom 10 = .ok (.iload_n 3, 1) := by decide +kernel
theorem dX0_bestFrom_11 : decode cX0_bestFrom 11 = .ok (.iadd, 1) := by decide +kernel
theorem dX0_bestFrom_12 : decode cX0_bestFrom 12 = .ok (.iaload, 1) := by decide +kernel
theorem dX0_bestFrom_13 : decode cX0_bestFrom 13 = .ok (.istore 4, 2) := by decide +kernel
theorem dX0_bestFrom_15 : decode cX0_bestFrom 15 = .ok (.iconst 0, 1) := by decide +kernel
theorem dX0_bestFrom_16 : decode cX0_bestFrom 16 = .ok (.istore 5, 2) := by decide +kernel
theorem dX0_bestFrom_18 : decode cX0_bestFrom 18 = .ok (.iload 5, 2) := by decide +kernel
theorem dX0_bestFrom_20 : decode cX0_bestFrom 20 = .ok (.aload_n 1, 1) := by decide +kernel
theorem dX0_bestFrom_21 : decode cX0_bestFrom 21 = .ok (.getfield 39, 3) := by decide +kernel
theorem dX0_bestFrom_24 : decode cX0_bestFrom 24 = .ok (.if_icmp .ge 33, 3) := by decide +kernel
theorem dX0_bestFrom_27 : decode cX0_bestFrom 27 = .ok (.iload_n 3, 1) := by decide +kernel
theorem dX0_bestFrom_28 : decode cX0_bestFrom 28 = .ok (.iload 5, 2) := by decide +kernel
theorem dX0_bestFrom_30 : decode cX0_bestFrom 30 = .ok (.ishr, 1) := by decide +kernel
theorem dX0_bestFrom_31 : decode cX0_bestFrom 31 = .ok (.iconst 1, 1) := by decide +kernel
theorem dX0_bestFrom_32 : decode cX0_bestFrom 32 = .ok (.iand, 1) := by decide +kernel
theorem dX0_bestFrom_33 : decode cX0_bestFrom 33 = .ok (.ifCond .ne 18, 3) := by decide +kernel
theorem dX0_bestFrom_36 : decode cX0_bestFrom 36 = .ok (.iload 4, 2) := by decide +kernel
theorem dX0_bestFrom_38 : decode cX0_bestFrom 38 = .ok (.aload_n 0, 1) := by decide +kernel
theorem dX0_bestFrom_39 : decode cX0_bestFrom 39 = .ok (.iload_n 2, 1) := by decide +kernel
theorem dX0_bestFrom_40 : decode cX0_bestFrom 40 = .ok (.iload 5, 2) := by decide +kernel
theorem dX0_bestFrom_42 : decode cX0_bestFrom 42 = .ok (.iload_n 3, 1) := by decide +kernel
theorem dX0_bestFrom_43 : decode cX0_bestFrom 43 = .ok (.invokevirtual 58, 3) := by decide +kernel
theorem dX0_bestFrom_46 : decode cX0_bestFrom 46 = .ok (.invokestatic 62, 3) := by decide +kernel
theorem dX0_bestFrom_49 : decode cX0_bestFrom 49 = .ok (.istore 4, 2) := by decide +kernel
theorem dX0_bestFrom_51 : decode cX0_bestFrom 51 = .ok (.iinc 5 1, 3) := by decide +kernel
theorem dX0_bestFrom_54 : decode cX0_bestFrom 54 = .ok (.goto (-36), 3) := by decide +kernel
theorem dX0_bestFrom_57 : decode cX0_bestFrom 57 = .ok (.iload 4, 2) := by decide +kernel
theorem dX0_bestFrom_59 : decode cX0_bestFrom 59 = .ok (.ireturn, 1) := by decide +kernel
theorem dX0_sumWith_0 : decode cX0_sumWith 0 = .ok (.aload_n 0, 1) := by decide +kernel
theorem dX0_sumWith_1 : decode cX0_sumWith 1 = .ok (.getfield 9, 3) := by decide +kernel
theorem dX0_sumWith_4 : decode cX0_sumWith 4 = .ok (.iload_n 1, 1) := by decide +kernel
theorem dX0_sumWith_5 : decode cX0_sumWith 5 = .ok (.bipush 6, 2) := by decide +kernel
theorem dX0_sumWith_7 : decode cX0_sumWith 7 = .ok (.imul, 1) := by decide +kernel
theorem dX0_sumWith_8 : decode cX0_sumWith 8 = .ok (.iload_n 2, 1) := by decide +kernel
theorem dX0_sumWith_9 : decode cX0_sumWith 9 = .ok (.iadd, 1) := by decide +kernel
theorem dX0_sumWith_10 : decode cX0_sumWith 10 = .ok (.iaload, 1) := by decide +kernel
theorem dX0_sumWith_11 : decode cX0_sumWith 11 = .ok (.aload_n 0, 1) := by decide +kernel
theorem dX0_sumWith_12 : decode cX0_sumWith 12 = .ok (.getfield 15, 3) := by decide +kernel
theorem dX0_sumWith_15 : decode cX0_sumWith 15 = .ok (.iload_n 1, 1) := by decide +kernel
theorem dX0_sumWith_16 : decode cX0_sumWith 16 = .ok (.iconst 1, 1) := by decide +kernel
theorem dX0_sumWith_17 : decode cX0_sumWith 17 = .ok (.iadd, 1) := by decide +kernel
theorem dX0_sumWith_18 : decode cX0_sumWith 18 = .ok (.bipush 64, 2) := by decide +kernel
theorem dX0_sumWith_20 : decode cX0_sumWith 20 = .ok (.imul, 1) := by decide +kernel
theorem dX0_sumWith_21 : decode cX0_sumWith 21 = .ok (.iload_n 3, 1) := by decide +kernel
theorem dX0_sumWith_22 : decode cX0_sumWith 22 = .ok (.iconst 1, 1) := by decide +kernel
theorem dX0_sumWith_23 : decode cX0_sumWith 23 = .ok (.iload_n 2, 1) := by decide +kernel
theorem dX0_sumWith_24 : decode cX0_sumWith 24 = .ok (.ishl, 1) := by decide +kernel
theorem dX0_sumWith_25 : decode cX0_sumWith 25 = .ok (.ior, 1) := by decide +kernel
theorem dX0_sumWith_26 : decode cX0_sumWith 26 = .ok (.iadd, 1) := by decide +kernel
theorem dX0_sumWith_27 : decode cX0_sumWith 27 = .ok (.iaload, 1) := by decide +kernel
theorem dX0_sumWith_28 : decode cX0_sumWith 28 = .ok (.iadd, 1) := by decide +kernel
theorem dX0_sumWith_29 : decode cX0_sumWith 29 = .ok (.ireturn, 1) := by decide +kernel
theorem dX0_thingOf_0 : decode cX0_thingOf 0 = .ok (.iconst 0, 1) := by decide +kernel
theorem dX0_thingOf_1 : decode cX0_thingOf 1 = .ok (.istore_n 3, 1) := by decide +kernel
theorem dX0_thingOf_2 : decode cX0_thingOf 2 = .ok (.bipush (-9), 2) := by decide +kernel
theorem dX0_thingOf_4 : decode cX0_thingOf 4 = .ok (.istore 4, 2) := by decide +kernel
theorem dX0_thingOf_6 : decode cX0_thingOf 6 = .ok (.iconst 0, 1) := by decide +kernel
theorem dX0_thingOf_7 : decode cX0_thingOf 7 = .ok (.istore 5, 2) := by decide +kernel
theorem dX0_thingOf_9 : decode cX0_thingOf 9 = .ok (.iload 5, 2) := by decide +kernel
theorem dX0_thingOf_11 : decode cX0_thingOf 11 = .ok (.iload_n 2, 1) := by decide +kernel
theorem dX0_thingOf_12 : decode cX0_thingOf 12 = .ok (.if_icmp .gt 42, 3) := by decide +kernel
theorem dX0_thingOf_15 : decode cX0_thingOf 15 = .ok (.iload 5, 2) := by decide +kernel
theorem dX0_thingOf_17 : decode cX0_thingOf 17 = .ok (.aload_n 1, 1) := by decide +kernel
theorem dX0_thingOf_18 : decode cX0_thingOf 18 = .ok (.getfield 28, 3) := by decide +kernel
theorem dX0_thingOf_21 : decode cX0_thingOf 21 = .ok (.if_icmp .ge 33, 3) := by decide +kernel
theorem dX0_thingOf_24 : decode cX0_thingOf 24 = .ok (.aload_n 0, 1) := by decide +kernel
theorem dX0_thingOf_25 : decode cX0_thingOf 25 = .ok (.aload_n 1, 1) := by decide +kernel
theorem dX0_thingOf_26 : decode cX0_thingOf 26 = .ok (.iload 5, 2) := by decide +kernel
theorem dX0_thingOf_28 : decode cX0_thingOf 28 = .ok (.iload_n 3, 1) := by decide +kernel
theorem dX0_thingOf_29 : decode cX0_thingOf 29 = .ok (.invokevirtual 67, 3) := by decide +kernel
theorem dX0_thingOf_32 : decode cX0_thingOf 32 = .ok (.istore 4, 2) := by decide +kernel
theorem dX0_thingOf_34 : decode cX0_thingOf 34 = .ok (.iload 4, 2) := by decide +kernel
theorem dX0_thingOf_36 : decode cX0_thingOf 36 = .ok (.bipush (-9), 2) := by decide +kernel
theorem dX0_thingOf_38 : decode cX0_thingOf 38 = .ok (.if_icmp .eq 10, 3) := by decide +kernel
theorem dX0_thingOf_41 : decode cX0_thingOf 41 = .ok (.iload_n 3, 1) := by decide +kernel
theorem dX0_thingOf_42 : decode cX0_thingOf 42 = .ok (.iconst 1, 1) := by decide +kernel
theorem dX0_thingOf_43 : decode cX0_thingOf 43 = .ok (.iload 4, 2) := by decide +kernel
theorem dX0_thingOf_45 : decode cX0_thingOf 45 = .ok (.ishl, 1) := by decide +kernel
theorem dX0_thingOf_46 : decode cX0_thingOf 46 = .ok (.ior, 1) := by decide +kernel
theorem dX0_thingOf_47 : decode cX0_thingOf 47 = .ok (.istore_n 3, 1) := by decide +kernel
theorem dX0_thingOf_48 : decode cX0_thingOf 48 = .ok (.iinc 5 1, 3) := by decide +kernel
theorem dX0_thingOf_51 : decode cX0_thingOf 51 = .ok (.goto (-42), 3) := by decide +kernel
theorem dX0_thingOf_54 : decode cX0_thingOf 54 = .ok (.iload 4, 2) := by decide +kernel
theorem dX0_thingOf_56 : decode cX0_thingOf 56 = .ok (.ireturn, 1) := by decide +kernel
theorem dX0_firstChoice_0 : decode cX0_firstChoice 0 = .ok (.aload_n 0, 1) := by decide +kernel
theorem dX0_firstChoice_1 : decode cX0_firstChoice 1 = .ok (.getfield 15, 3) := by decide +kernel
theorem dX0_firstChoice_4 : decode cX0_firstChoice 4 = .ok (.iload_n 2, 1) := by decide +kernel
theorem dX0_firstChoice_5 : decode cX0_firstChoice 5 = .ok (.bipush 64, 2) := by decide +kernel
theorem dX0_firstChoice_7 : decode cX0_firstChoice 7 = .ok (.imul, 1) := by decide +kernel
theorem dX0_firstChoice_8 : decode cX0_firstChoice 8 = .ok (.iload_n 3, 1) := by decide +kernel
theorem dX0_firstChoice_9 : decode cX0_firstChoice 9 = .ok (.iadd, 1) := by decide +kernel
theorem dX0_firstChoice_10 : decode cX0_firstChoice 10 = .ok (.iaload, 1) := by decide +kernel
theorem dX0_firstChoice_11 : decode cX0_firstChoice 11 = .ok (.istore 4, 2) := by decide +kernel
theorem dX0_firstChoice_13 : decode cX0_firstChoice 13 = .ok (.aload_n 0, 1) := by decide +kernel
theorem dX0_firstChoice_14 : decode cX0_firstChoice 14 = .ok (.getfield 15, 3) := by decide +kernel
theorem dX0_firstChoice_17 : decode cX0_firstChoice 17 = .ok (.iload_n 2, 1) := by decide +kernel
theorem dX0_firstChoice_18 : decode cX0_firstChoice 18 = .ok (.iconst 1, 1) := by decide +kernel
theorem dX0_firstChoice_19 : decode cX0_firstChoice 19 = .ok (.iadd, 1) := by decide +kernel
theorem dX0_firstChoice_20 : decode cX0_firstChoice 20 = .ok (.bipush 64, 2) := by decide +kernel
theorem dX0_firstChoice_22 : decode cX0_firstChoice 22 = .ok (.imul, 1) := by decide +kernel
theorem dX0_firstChoice_23 : decode cX0_firstChoice 23 = .ok (.iload_n 3, 1) := by decide +kernel
theorem dX0_firstChoice_24 : decode cX0_firstChoice 24 = .ok (.iadd, 1) := by decide +kernel
theorem dX0_firstChoice_25 : decode cX0_firstChoice 25 = .ok (.iaload, 1) := by decide +kernel
theorem dX0_firstChoice_26 : decode cX0_firstChoice 26 = .ok (.iload 4, 2) := by decide +kernel
theorem dX0_firstChoice_28 : decode cX0_firstChoice 28 = .ok (.if_icmp .ne 6, 3) := by decide +kernel
theorem dX0_firstChoice_31 : decode cX0_firstChoice 31 = .ok (.bipush (-9), 2) := by decide +kernel
theorem dX0_firstChoice_33 : decode cX0_firstChoice 33 = .ok (.ireturn, 1) := by decide +kernel
theorem dX0_firstChoice_34 : decode cX0_firstChoice 34 = .ok (.iconst 0, 1) := by decide +kernel
theorem dX0_firstChoice_35 : decode cX0_firstChoice 35 = .ok (.istore 5, 2) := by decide +kernel
theorem dX0_firstChoice_37 : decode cX0_firstChoice 37 = .ok (.iload 5, 2) := by decide +kernel
theorem dX0_firstChoice_39 : decode cX0_firstChoice 39 = .ok (.aload_n 1, 1) := by decide +kernel
theorem dX0_firstChoice_40 : decode cX0_firstChoice 40 = .ok (.getfield 39, 3) := by decide +kernel
theorem dX0_firstChoice_43 : decode cX0_firstChoice 43 = .ok (.if_icmp .ge 34, 3) := by decide +kernel
theorem dX0_firstChoice_46 : decode cX0_firstChoice 46 = .ok (.iload_n 3, 1) := by decide +kernel
theorem dX0_firstChoice_47 : decode cX0_firstChoice 47 = .ok (.iload 5, 2) := by decide +kernel
theorem dX0_firstChoice_49 : decode cX0_firstChoice 49 = .ok (.ishr, 1) := by decide +kernel
theorem dX0_firstChoice_50 : decode cX0_firstChoice 50 = .ok (.iconst 1, 1) := by decide +kernel
theorem dX0_firstChoice_51 : decode cX0_firstChoice 51 = .ok (.iand, 1) := by decide +kernel
theorem dX0_firstChoice_52 : decode cX0_firstChoice 52 = .ok (.ifCond .ne 19, 3) := by decide +kernel
theorem dX0_firstChoice_55 : decode cX0_firstChoice 55 = .ok (.aload_n 0, 1) := by decide +kernel
theorem dX0_firstChoice_56 : decode cX0_firstChoice 56 = .ok (.iload_n 2, 1) := by decide +kernel
theorem dX0_firstChoice_57 : decode cX0_firstChoice 57 = .ok (.iload 5, 2) := by decide +kernel
theorem dX0_firstChoice_59 : decode cX0_firstChoice 59 = .ok (.iload_n 3, 1) := by decide +kernel
theorem dX0_firstChoice_60 : decode cX0_firstChoice 60 = .ok (.invokevirtual 58, 3) := by decide +kernel
theorem dX0_firstChoice_63 : decode cX0_firstChoice 63 = .ok (.iload 4, 2) := by decide +kernel
theorem dX0_firstChoice_65 : decode cX0_firstChoice 65 = .ok (.if_icmp .ne 6, 3) := by decide +kernel
theorem dX0_firstChoice_68 : decode cX0_firstChoice 68 = .ok (.iload 5, 2) := by decide +kernel
theorem dX0_firstChoice_70 : decode cX0_firstChoice 70 = .ok (.ireturn, 1) := by decide +kernel
theorem dX0_firstChoice_71 : decode cX0_firstChoice 71 = .ok (.iinc 5 1, 3) := by decide +kernel
theorem dX0_firstChoice_74 : decode cX0_firstChoice 74 = .ok (.goto (-37), 3) := by decide +kernel
theorem dX0_firstChoice_77 : decode cX0_firstChoice 77 = .ok (.bipush (-9), 2) := by decide +kernel
theorem dX0_firstChoice_79 : decode cX0_firstChoice 79 = .ok (.ireturn, 1) := by decide +kernel
theorem dX1_init_0 : decode cX1_init 0 = .ok (.aload_n 0, 1) := by decide +kernel
theorem dX1_init_1 : decode cX1_init 1 = .ok (.invokespecial 3, 3) := by decide +kernel
theorem dX1_init_4 : decode cX1_init 4 = .ok (.aload_n 0, 1) := by decide +kernel
theorem dX1_init_5 : decode cX1_init 5 = .ok (.bipush 64, 2) := by decide +kernel
theorem dX1_init_7 : decode cX1_init 7 = .ok (.newarray .int, 2) := by decide +kernel
theorem dX1_init_9 : decode cX1_init 9 = .ok (.putfield 9, 3) := by decide +kernel
theorem dX1_init_12 : decode cX1_init 12 = .ok (.aload_n 0, 1) := by decide +kernel
theorem dX1_init_13 : decode cX1_init 13 = .ok (.bipush 7, 2) := by decide +kernel
theorem dX1_init_15 : decode cX1_init 15 = .ok (.newarray .int, 2) := by decide +kernel
theorem dX1_init_17 : decode cX1_init 17 = .ok (.putfield 15, 3) := by decide +kernel
theorem dX1_init_20 : decode cX1_init 20 = .ok (.return_, 1) := by decide +kernel
theorem dX1_add_0 : decode cX1_add 0 = .ok (.aload_n 0, 1) := by decide +kernel
theorem dX1_add_1 : decode cX1_add 1 = .ok (.getfield 18, 3) := by decide +kernel
theorem dX1_add_4 : decode cX1_add 4 = .ok (.aload_n 0, 1) := by decide +kernel
theorem dX1_add_5 : decode cX1_add 5 = .ok (.getfield 9, 3) := by decide +kernel
theorem dX1_add_8 : decode cX1_add 8 = .ok (.arraylength, 1) := by decide +kernel
theorem dX1_add_9 : decode cX1_add 9 = .ok (.if_icmp .lt 5, 3) := by decide +kernel
theorem dX1_add_12 : decode cX1_add 12 = .ok (.iconst 0, 1) := by decide +kernel
theorem dX1_add_13 : decode cX1_add 13 = .ok (.ireturn, 1) := by decide +kernel
theorem dX1_add_14 : decode cX1_add 14 = .ok (.aload_n 0, 1) := by decide +kernel
theorem dX1_add_15 : decode cX1_add 15 = .ok (.getfield 9, 3) := by decide +kernel
theorem dX1_add_18 : decode cX1_add 18 = .ok (.aload_n 0, 1) := by decide +kernel
theorem dX1_add_19 : decode cX1_add 19 = .ok (.getfield 18, 3) := by decide +kernel
theorem dX1_add_22 : decode cX1_add 22 = .ok (.iload_n 1, 1) := by decide +kernel
theorem dX1_add_23 : decode cX1_add 23 = .ok (.iastore, 1) := by decide +kernel
theorem dX1_add_24 : decode cX1_add 24 = .ok (.aload_n 0, 1) := by decide +kernel
theorem dX1_add_25 : decode cX1_add 25 = .ok (.dup, 1) := by decide +kernel
theorem dX1_add_26 : decode cX1_add 26 = .ok (.getfield 18, 3) := by decide +kernel
theorem dX1_add_29 : decode cX1_add 29 = .ok (.iconst 1, 1) := by decide +kernel
theorem dX1_add_30 : decode cX1_add 30 = .ok (.iadd, 1) := by decide +kernel
theorem dX1_add_31 : decode cX1_add 31 = .ok (.putfield 18, 3) := by decide +kernel
theorem dX1_add_34 : decode cX1_add 34 = .ok (.iconst 1, 1) := by decide +kernel
theorem dX1_add_35 : decode cX1_add 35 = .ok (.ireturn, 1) := by decide +kernel
theorem dX1_firstBadSign_0 : decode cX1_firstBadSign 0 = .ok (.iconst 0, 1) := by decide +kernel
theorem dX1_firstBadSign_1 : decode cX1_firstBadSign 1 = .ok (.istore_n 1, 1) := by decide +kernel
theorem dX1_firstBadSign_2 : decode cX1_firstBadSign 2 = .ok (.iconst 0, 1) := by decide +kernel
theorem dX1_firstBadSign_3 : decode cX1_firstBadSign 3 = .ok (.istore_n 2, 1) := by decide +kernel
theorem dX1_firstBadSign_4 : decode cX1_firstBadSign 4 = .ok (.iload_n 2, 1) := by decide +kernel
theorem dX1_firstBadSign_5 : decode cX1_firstBadSign 5 = .ok (.bipush 64, 2) := by decide +kernel
theorem dX1_firstBadSign_7 : decode cX1_firstBadSign 7 = .ok (.if_icmp .ge 35, 3) := by decide +kernel
theorem dX1_firstBadSign_10 : decode cX1_firstBadSign 10 = .ok (.aload_n 0, 1) := by decide +kernel
theorem dX1_firstBadSign_11 : decode cX1_firstBadSign 11 = .ok (.iload_n 1, 1) := by decide +kernel
theorem dX1_firstBadSign_12 : decode cX1_firstBadSign 12 = .ok (.invokevirtual 22, 3) := by decide +kernel
theorem dX1_firstBadSign_15 : decode cX1_firstBadSign 15 = .ok (.istore_n 3, 1) := by decide +kernel
theorem dX1_firstBadSign_16 : decode cX1_firstBadSign 16 = .ok (.iload_n 3, 1) := by decide +kernel
theorem dX1_firstBadSign_17 : decode cX1_firstBadSign 17 = .ok (.ifCond .ge 7, 3) := by decide +kernel
theorem dX1_firstBadSign_20 : decode cX1_firstBadSign 20 = .ok (.iconst (-1), 1) := by decide +kernel
theorem dX1_firstBadSign_21 : decode cX1_firstBadSign 21 = .ok (.iload_n 3, 1) := by decide +kernel
theorem dX1_firstBadSign_22 : decode cX1_firstBadSign 22 = .ok (.isub, 1) := by decide +kernel
theorem dX1_firstBadSign_23 : decode cX1_firstBadSign 23 = .ok (.ireturn, 1) := by decide +kernel
theorem dX1_firstBadSign_24 : decode cX1_firstBadSign 24 = .ok (.iload_n 3, 1) := by decide +kernel
theorem dX1_firstBadSign_25 : decode cX1_firstBadSign 25 = .ok (.aload_n 0, 1) := by decide +kernel
theorem dX1_firstBadSign_26 : decode cX1_firstBadSign 26 = .ok (.getfield 18, 3) := by decide +kernel
theorem dX1_firstBadSign_29 : decode cX1_firstBadSign 29 = .ok (.if_icmp .lt 5, 3) := by decide +kernel
theorem dX1_firstBadSign_32 : decode cX1_firstBadSign 32 = .ok (.iconst (-1), 1) := by decide +kernel
theorem dX1_firstBadSign_33 : decode cX1_firstBadSign 33 = .ok (.ireturn, 1) := by decide +kernel
theorem dX1_firstBadSign_34 : decode cX1_firstBadSign 34 = .ok (.iload_n 3, 1) := by decide +kernel
theorem dX1_firstBadSign_35 : decode cX1_firstBadSign 35 = .ok (.istore_n 1, 1) := by decide +kernel
theorem dX1_firstBadSign_36 : decode cX1_firstBadSign 36 = .ok (.iinc 2 1, 3) := by decide +kernel
theorem dX1_firstBadSign_39 : decode cX1_firstBadSign 39 = .ok (.goto (-35), 3) := by decide +kernel
theorem dX1_firstBadSign_42 : decode cX1_firstBadSign 42 = .ok (.iload_n 1, 1) := by decide +kernel
theorem dX1_firstBadSign_43 : decode cX1_firstBadSign 43 = .ok (.ireturn, 1) := by decide +kernel
theorem dX1_read_0 : decode cX1_read 0 = .ok (.aload_n 0, 1) := by decide +kernel
theorem dX1_read_1 : decode cX1_read 1 = .ok (.aload_n 0, 1) := by decide +kernel
theorem dX1_read_2 : decode cX1_read 2 = .ok (.iload_n 1, 1) := by decide +kernel
theorem dX1_read_3 : decode cX1_read 3 = .ok (.invokevirtual 26, 3) := by decide +kernel
theorem dX1_read_6 : decode cX1_read 6 = .ok (.putfield 29, 3) := by decide +kernel
theorem dX1_read_9 : decode cX1_read 9 = .ok (.aload_n 0, 1) := by decide +kernel
theorem dX1_read_10 : decode cX1_read 10 = .ok (.aload_n 0, 1) := by decide +kernel
theorem dX1_read_11 : decode cX1_read 11 = .ok (.getfield 29, 3) := by decide +kernel
theorem dX1_read_14 : decode cX1_read 14 = .ok (.invokevirtual 32, 3) := by decide +kernel
theorem dX1_read_17 : decode cX1_read 17 = .ok (.astore_n 2, 1) := by decide +kernel
theorem dX1_read_18 : decode cX1_read 18 = .ok (.aload_n 2, 1) := by decide +kernel
theorem dX1_read_19 : decode cX1_read 19 = .ok (.invokevirtual 36, 3) := by decide +kernel
theorem dX1_read_22 : decode cX1_read 22 = .ok (.ifCond .eq 7, 3) := by decide +kernel
theorem dX1_read_25 : decode cX1_read 25 = .ok (.iconst (-1), 1) := by decide +kernel
theorem dX1_read_26 : decode cX1_read 26 = .ok (.iload_n 1, 1) := by decide +kernel
theorem dX1_read_27 : decode cX1_read 27 = .ok (.isub, 1) := by decide +kernel
theorem dX1_read_28 : decode cX1_read 28 = .ok (.ireturn, 1) := by decide +kernel
theorem dX1_read_29 : decode cX1_read 29 = .ok (.iload_n 1, 1) := by decide +kernel
theorem dX1_read_30 : decode cX1_read 30 = .ok (.iconst 1, 1) := by decide +kernel
theorem dX1_read_31 : decode cX1_read 31 = .ok (.iadd, 1) := by decide +kernel
theorem dX1_read_32 : decode cX1_read 32 = .ok (.istore_n 3, 1) := by decide +kernel
theorem dX1_read_33 : decode cX1_read 33 = .ok (.iconst 0, 1) := by decide +kernel
theorem dX1_read_34 : decode cX1_read 34 = .ok (.istore 4, 2) := by decide +kernel
theorem dX1_read_36 : decode cX1_read 36 = .ok (.iconst 0, 1) := by decide +kernel
theorem dX1_read_37 : decode cX1_read 37 = .ok (.istore 5, 2) := by decide +kernel
theorem dX1_read_39 : decode cX1_read 39 = .ok (.iload 5, 2) := by decide +kernel
theorem dX1_read_41 : decode cX1_read 41 = .ok (.aload_n 2, 1) := by decide +kernel
theorem dX1_read_42 : decode cX1_read 42 = .ok (.invokevirtual 42, 3) := by decide +kernel
theorem dX1_read_45 : decode cX1_read 45 = .ok (.if_icmp .ge 107, 3) := by decide +kernel
theorem dX1_read_48 : decode cX1_read 48 = .ok (.aload_n 2, 1) := by decide +kernel
theorem dX1_read_49 : decode cX1_read 49 = .ok (.iload 5, 2) := by decide +kernel
theorem dX1_read_51 : decode cX1_read 51 = .ok (.invokevirtual 45, 3) := by decide +kernel
theorem dX1_read_54 : decode cX1_read 54 = .ok (.istore 6, 2) := by decide +kernel
theorem dX1_read_56 : decode cX1_read 56 = .ok (.iconst 0, 1) := by decide +kernel
theorem dX1_read_57 : decode cX1_read 57 = .ok (.istore 7, 2) := by decide +kernel
theorem dX1_read_59 : decode cX1_read 59 = .ok (.iload 6, 2) := by decide +kernel
theorem dX1_read_61 : decode cX1_read 61 = .ok (.bipush 44, 2) := by decide +kernel
theorem dX1_read_63 : decode cX1_read 63 = .ok (.if_icmp .eq 10, 3) := by decide +kernel
theorem dX1_read_66 : decode cX1_read 66 = .ok (.iload 6, 2) := by decide +kernel
theorem dX1_read_68 : decode cX1_read 68 = .ok (.bipush 59, 2) := by decide +kernel
theorem dX1_read_70 : decode cX1_read 70 = .ok (.if_icmp .ne 23, 3) := by decide +kernel
theorem dX1_read_73 : decode cX1_read 73 = .ok (.aload_n 0, 1) := by decide +kernel
theorem dX1_read_74 : decode cX1_read 74 = .ok (.iload_n 3, 1) := by decide +kernel
theorem dX1_read_75 : decode cX1_read 75 = .ok (.invokevirtual 26, 3) := by decide +kernel
theorem dX1_read_78 : decode cX1_read 78 = .ok (.iload 6, 2) := by decide +kernel
theorem dX1_read_80 : decode cX1_read 80 = .ok (.if_icmp .ne 7, 3) := by decide +kernel
theorem dX1_read_83 : decode cX1_read 83 = .ok (.iconst 1, 1) := by decide +kernel
theorem dX1_read_84 : decode cX1_read 84 = .ok (.goto 4, 3) := by decide +kernel
theorem dX1_read_87 : decode cX1_read 87 = .ok (.iconst 0, 1) := by decide +kernel
theorem dX1_read_88 : decode cX1_read 88 = .ok (.istore 7, 2) := by decide +kernel
theorem dX1_read_90 : decode cX1_read 90 = .ok (.goto 42, 3) := by decide +kernel
theorem dX1_read_93 : decode cX1_read 93 = .ok (.iload 4, 2) := by decide +kernel
theorem dX1_read_95 : decode cX1_read 95 = .ok (.aload_n 0, 1) := by decide +kernel
theorem dX1_read_96 : decode cX1_read 96 = .ok (.getfield 15, 3) := by decide +kernel
theorem dX1_read_99 : decode cX1_read 99 = .ok (.arraylength, 1) := by decide +kernel
theorem dX1_read_100 : decode cX1_read 100 = .ok (.if_icmp .ge 32, 3) := by decide +kernel
theorem dX1_read_103 : decode cX1_read 103 = .ok (.aload_n 0, 1) := by decide +kernel
theorem dX1_read_104 : decode cX1_read 104 = .ok (.iload_n 3, 1) := by decide +kernel
theorem dX1_read_105 : decode cX1_read 105 = .ok (.iload 6, 2) := by decide +kernel
theorem dX1_read_107 : decode cX1_read 107 = .ok (.bipush 48, 2) := by decide +kernel
theorem dX1_read_109 : decode cX1_read 109 = .ok (.isub, 1) := by decide +kernel
theorem dX1_read_110 : decode cX1_read 110 = .ok (.invokevirtual 49, 3) := by decide +kernel
theorem dX1_read_113 : decode cX1_read 113 = .ok (.istore 7, 2) := by decide +kernel
theorem dX1_read_115 : decode cX1_read 115 = .ok (.aload_n 0, 1) := by decide +kernel
theorem dX1_read_116 : decode cX1_read 116 = .ok (.getfield 15, 3) := by decide +kernel
theorem dX1_read_119 : decode cX1_read 119 = .ok (.iload 4, 2) := by decide +kernel
theorem dX1_read_121 : decode cX1_read 121 = .ok (.aload_n 0, 1) := by decide +kernel
theorem dX1_read_122 : decode cX1_read 122 = .ok (.iload_n 3, 1) := by decide +kernel
theorem dX1_read_123 : decode cX1_read 123 = .ok (.iload 7, 2) := by decide +kernel
theorem dX1_read_125 : decode cX1_read 125 = .ok (.invokevirtual 53, 3) := by decide +kernel
theorem dX1_read_128 : decode cX1_read 128 = .ok (.iastore, 1) := by decide +kernel
theorem dX1_read_129 : decode cX1_read 129 = .ok (.iinc 4 1, 3) := by decide +kernel
theorem dX1_read_132 : decode cX1_read 132 = .ok (.iload 7, 2) := by decide +kernel
theorem dX1_read_134 : decode cX1_read 134 = .ok (.ifCond .ne 7, 3) := by decide +kernel
theorem dX1_read_137 : decode cX1_read 137 = .ok (.iconst (-1), 1) := by decide +kernel
theorem dX1_read_138 : decode cX1_read 138 = .ok (.iload_n 3, 1) := by decide +kernel
theorem dX1_read_139 : decode cX1_read 139 = .ok (.isub, 1) := by decide +kernel
theorem dX1_read_140 : decode cX1_read 140 = .ok (.ireturn, 1) := by decide +kernel
theorem dX1_read_141 : decode cX1_read 141 = .ok (.iload_n 3, 1) := by decide +kernel
theorem dX1_read_142 : decode cX1_read 142 = .ok (.iload 7, 2) := by decide +kernel
theorem dX1_read_144 : decode cX1_read 144 = .ok (.iadd, 1) := by decide +kernel
theorem dX1_read_145 : decode cX1_read 145 = .ok (.istore_n 3, 1) := by decide +kernel
theorem dX1_read_146 : decode cX1_read 146 = .ok (.iinc 5 1, 3) := by decide +kernel
theorem dX1_read_149 : decode cX1_read 149 = .ok (.goto (-110), 3) := by decide +kernel
theorem dX1_read_152 : decode cX1_read 152 = .ok (.iload_n 3, 1) := by decide +kernel
theorem dX1_read_153 : decode cX1_read 153 = .ok (.ireturn, 1) := by decide +kernel
theorem dX1_formOf_0 : decode cX1_formOf 0 = .ok (.iload_n 1, 1) := by decide +kernel
theorem dX1_formOf_1 : decode cX1_formOf 1 = .ok (.tableswitch 67 110 119 #[55, 67, 61, 67, 67, 67, 64, 67, 67, 58], 55) := by decide +kernel
theorem dX1_formOf_56 : decode cX1_formOf 56 = .ok (.ldc 56, 2) := by decide +kernel
theorem dX1_formOf_58 : decode cX1_formOf 58 = .ok (.areturn, 1) := by decide +kernel
theorem dX1_formOf_59 : decode cX1_formOf 59 = .ok (.ldc 58, 2) := by decide +kernel
theorem dX1_formOf_61 : decode cX1_formOf 61 = .ok (.areturn, 1) := by decide +kernel
theorem dX1_formOf_62 : decode cX1_formOf 62 = .ok (.ldc 60, 2) := by decide +kernel
theorem dX1_formOf_64 : decode cX1_formOf 64 = .ok (.areturn, 1) := by decide +kernel
theorem dX1_formOf_65 : decode cX1_formOf 65 = .ok (.ldc 62, 2) := by decide +kernel
theorem dX1_formOf_67 : decode cX1_formOf 67 = .ok (.areturn, 1) := by decide +kernel
theorem dX1_formOf_68 : decode cX1_formOf 68 = .ok (.ldc 64, 2) := by decide +kernel
theorem dX1_formOf_70 : decode cX1_formOf 70 = .ok (.areturn, 1) := by decide +kernel
theorem dX1_signAt_0 : decode cX1_signAt 0 = .ok (.iload_n 1, 1) := by decide +kernel
theorem dX1_signAt_1 : decode cX1_signAt 1 = .ok (.ifCond .lt 29, 3) := by decide +kernel
theorem dX1_signAt_4 : decode cX1_signAt 4 = .ok (.iload_n 1, 1) := by decide +kernel
theorem dX1_signAt_5 : decode cX1_signAt 5 = .ok (.aload_n 0, 1) := by decide +kernel
theorem dX1_signAt_6 : decode cX1_signAt 6 = .ok (.getfield 18, 3) := by decide +kernel
theorem dX1_signAt_9 : decode cX1_signAt 9 = .ok (.if_icmp .ge 21, 3) := by decide +kernel
theorem dX1_signAt_12 : decode cX1_signAt 12 = .ok (.iload_n 1, 1) := by decide +kernel
theorem dX1_signAt_13 : decode cX1_signAt 13 = .ok (.aload_n 0, 1) := by decide +kernel
theorem dX1_signAt_14 : decode cX1_signAt 14 = .ok (.getfield 9, 3) := by decide +kernel
theorem dX1_signAt_17 : decode cX1_signAt 17 = .ok (.arraylength, 1) := by decide +kernel
theorem dX1_signAt_18 : decode cX1_signAt 18 = .ok (.if_icmp .ge 12, 3) := by decide +kernel
theorem dX1_signAt_21 : decode cX1_signAt 21 = .ok (.aload_n 0, 1) := by decide +kernel
theorem dX1_signAt_22 : decode cX1_signAt 22 = .ok (.getfield 9, 3) := by decide +kernel
theorem dX1_signAt_25 : decode cX1_signAt 25 = .ok (.iload_n 1, 1) := by decide +kernel
theorem dX1_signAt_26 : decode cX1_signAt 26 = .ok (.iaload, 1) := by decide +kernel
theorem dX1_signAt_27 : decode cX1_signAt 27 = .ok (.goto 4, 3) := by decide +kernel
theorem dX1_signAt_30 : decode cX1_signAt 30 = .ok (.iconst (-1), 1) := by decide +kernel
theorem dX1_signAt_31 : decode cX1_signAt 31 = .ok (.ireturn, 1) := by decide +kernel
theorem dX1_digitsAt_0 : decode cX1_digitsAt 0 = .ok (.iconst 0, 1) := by decide +kernel
theorem dX1_digitsAt_1 : decode cX1_digitsAt 1 = .ok (.istore_n 3, 1) := by decide +kernel
theorem dX1_digitsAt_2 : decode cX1_digitsAt 2 = .ok (.iload_n 3, 1) := by decide +kernel
theorem dX1_digitsAt_3 : decode cX1_digitsAt 3 = .ok (.iload_n 2, 1) := by decide +kernel
theorem dX1_digitsAt_4 : decode cX1_digitsAt 4 = .ok (.if_icmp .ge 33, 3) := by decide +kernel
theorem dX1_digitsAt_7 : decode cX1_digitsAt 7 = .ok (.aload_n 0, 1) := by decide +kernel
theorem dX1_digitsAt_8 : decode cX1_digitsAt 8 = .ok (.iload_n 1, 1) := by decide +kernel
theorem dX1_digitsAt_9 : decode cX1_digitsAt 9 = .ok (.iload_n 3, 1) := by decide +kernel
theorem dX1_digitsAt_10 : decode cX1_digitsAt 10 = .ok (.iadd, 1) := by decide +kernel
theorem dX1_digitsAt_11 : decode cX1_digitsAt 11 = .ok (.invokevirtual 26, 3) := by decide +kernel
theorem dX1_digitsAt_14 : decode cX1_digitsAt 14 = .ok (.bipush 48, 2) := by decide +kernel
theorem dX1_digitsAt_16 : decode cX1_digitsAt 16 = .ok (.if_icmp .lt 21, 3) := by decide +kernel
theorem dX1_digitsAt_19 : decode cX1_digitsAt 19 = .ok (.aload_n 0, 1) := by decide +kernel
theorem dX1_digitsAt_20 : decode cX1_digitsAt 20 = .ok (.iload_n 1, 1) := by decide +kernel
theorem dX1_digitsAt_21 : decode cX1_digitsAt 21 = .ok (.iload_n 3, 1) := by decide +kernel
theorem dX1_digitsAt_22 : decode cX1_digitsAt 22 = .ok (.iadd, 1) := by decide +kernel
theorem dX1_digitsAt_23 : decode cX1_digitsAt 23 = .ok (.invokevirtual 26, 3) := by decide +kernel
theorem dX1_digitsAt_26 : decode cX1_digitsAt 26 = .ok (.bipush 57, 2) := by decide +kernel
theorem dX1_digitsAt_28 : decode cX1_digitsAt 28 = .ok (.if_icmp .gt 9, 3) := by decide +kernel
theorem dX1_digitsAt_31 : decode cX1_digitsAt 31 = .ok (.iinc 3 1, 3) := by decide +kernel
theorem dX1_digitsAt_34 : decode cX1_digitsAt 34 = .ok (.goto (-32), 3) := by decide +kernel
theorem dX1_digitsAt_37 : decode cX1_digitsAt 37 = .ok (.iload_n 3, 1) := by decide +kernel
theorem dX1_digitsAt_38 : decode cX1_digitsAt 38 = .ok (.ireturn, 1) := by decide +kernel
theorem dX1_valueOf_0 : decode cX1_valueOf 0 = .ok (.iconst 0, 1) := by decide +kernel
theorem dX1_valueOf_1 : decode cX1_valueOf 1 = .ok (.istore_n 3, 1) := by decide +kernel
theorem dX1_valueOf_2 : decode cX1_valueOf 2 = .ok (.iconst 0, 1) := by decide +kernel
theorem dX1_valueOf_3 : decode cX1_valueOf 3 = .ok (.istore 4, 2) := by decide +kernel
theorem dX1_valueOf_5 : decode cX1_valueOf 5 = .ok (.iload 4, 2) := by decide +kernel
theorem dX1_valueOf_7 : decode cX1_valueOf 7 = .ok (.iload_n 2, 1) := by decide +kernel
theorem dX1_valueOf_8 : decode cX1_valueOf 8 = .ok (.if_icmp .ge 26, 3) := by decide +kernel
theorem dX1_valueOf_11 : decode cX1_valueOf 11 = .ok (.bipush 10, 2) := by decide +kernel
theorem dX1_valueOf_13 : decode cX1_valueOf 13 = .ok (.iload_n 3, 1) := by decide +kernel
theorem dX1_valueOf_14 : decode cX1_valueOf 14 = .ok (.imul, 1) := by decide +kernel
theorem dX1_valueOf_15 : decode cX1_valueOf 15 = .ok (.aload_n 0, 1) := by decide +kernel
theorem dX1_valueOf_16 : decode cX1_valueOf 16 = .ok (.iload_n 1, 1) := by decide +kernel
theorem dX1_valueOf_17 : decode cX1_valueOf 17 = .ok (.iload 4, 2) := by decide +kernel
theorem dX1_valueOf_19 : decode cX1_valueOf 19 = .ok (.iadd, 1) := by decide +kernel
theorem dX1_valueOf_20 : decode cX1_valueOf 20 = .ok (.invokevirtual 26, 3) := by decide +kernel
theorem dX1_valueOf_23 : decode cX1_valueOf 23 = .ok (.iadd, 1) := by decide +kernel
theorem dX1_valueOf_24 : decode cX1_valueOf 24 = .ok (.bipush 48, 2) := by decide +kernel
theorem dX1_valueOf_26 : decode cX1_valueOf 26 = .ok (.isub, 1) := by decide +kernel
theorem dX1_valueOf_27 : decode cX1_valueOf 27 = .ok (.istore_n 3, 1) := by decide +kernel
theorem dX1_valueOf_28 : decode cX1_valueOf 28 = .ok (.iinc 4 1, 3) := by decide +kernel
theorem dX1_valueOf_31 : decode cX1_valueOf 31 = .ok (.goto (-26), 3) := by decide +kernel
theorem dX1_valueOf_34 : decode cX1_valueOf 34 = .ok (.iload_n 3, 1) := by decide +kernel
theorem dX1_valueOf_35 : decode cX1_valueOf 35 = .ok (.ireturn, 1) := by decide +kernel
theorem dX2_init_0 : decode cX2_init 0 = .ok (.aload_n 0, 1) := by decide +kernel
theorem dX2_init_1 : decode cX2_init 1 = .ok (.invokespecial 3, 3) := by decide +kernel
theorem dX2_init_4 : decode cX2_init 4 = .ok (.aload_n 0, 1) := by decide +kernel
theorem dX2_init_5 : decode cX2_init 5 = .ok (.bipush 6, 2) := by decide +kernel
theorem dX2_init_7 : decode cX2_init 7 = .ok (.anewarray 9, 3) := by decide +kernel
theorem dX2_init_10 : decode cX2_init 10 = .ok (.putfield 11, 3) := by decide +kernel
theorem dX2_init_13 : decode cX2_init 13 = .ok (.aload_n 0, 1) := by decide +kernel
theorem dX2_init_14 : decode cX2_init 14 = .ok (.bipush 7, 2) := by decide +kernel
theorem dX2_init_16 : decode cX2_init 16 = .ok (.newarray .int, 2) := by decide +kernel
theorem dX2_init_18 : decode cX2_init 18 = .ok (.putfield 17, 3) := by decide +kernel
theorem dX2_init_21 : decode cX2_init 21 = .ok (.aload_n 0, 1) := by decide +kernel
theorem dX2_init_22 : decode cX2_init 22 = .ok (.bipush 7, 2) := by decide +kernel
theorem dX2_init_24 : decode cX2_init 24 = .ok (.newarray .int, 2) := by decide +kernel
theorem dX2_init_26 : decode cX2_init 26 = .ok (.putfield 21, 3) := by decide +kernel
theorem dX2_init_29 : decode cX2_init 29 = .ok (.aload_n 0, 1) := by decide +kernel
theorem dX2_init_30 : decode cX2_init 30 = .ok (.aload_n 1, 1) := by decide +kernel
theorem dX2_init_31 : decode cX2_init 31 = .ok (.putfield 24, 3) := by decide +kernel
theorem dX2_init_34 : decode cX2_init 34 = .ok (.iconst 0, 1) := by decide +kernel
theorem dX2_init_35 : decode cX2_init 35 = .ok (.istore_n 2, 1) := by decide +kernel
theorem dX2_init_36 : decode cX2_init 36 = .ok (.iload_n 2, 1) := by decide +kernel
theorem dX2_init_37 : decode cX2_init 37 = .ok (.bipush 6, 2) := by decide +kernel
theorem dX2_init_39 : decode cX2_init 39 = .ok (.if_icmp .ge 22, 3) := by decide +kernel
theorem dX2_init_42 : decode cX2_init 42 = .ok (.aload_n 0, 1) := by decide +kernel
theorem dX2_init_43 : decode cX2_init 43 = .ok (.getfield 11, 3) := by decide +kernel
theorem dX2_init_46 : decode cX2_init 46 = .ok (.iload_n 2, 1) := by decide +kernel
theorem dX2_init_47 : decode cX2_init 47 = .ok (.new 9, 3) := by decide +kernel
theorem dX2_init_50 : decode cX2_init 50 = .ok (.dup, 1) := by decide +kernel
theorem dX2_init_51 : decode cX2_init 51 = .ok (.invokespecial 28, 3) := by decide +kernel
theorem dX2_init_54 : decode cX2_init 54 = .ok (.aastore, 1) := by decide +kernel
theorem dX2_init_55 : decode cX2_init 55 = .ok (.iinc 2 1, 3) := by decide +kernel
theorem dX2_init_58 : decode cX2_init 58 = .ok (.goto (-22), 3) := by decide +kernel
theorem dX2_init_61 : decode cX2_init 61 = .ok (.return_, 1) := by decide +kernel
theorem dX2_recall_0 : decode cX2_recall 0 = .ok (.aload_n 0, 1) := by decide +kernel
theorem dX2_recall_1 : decode cX2_recall 1 = .ok (.aload_n 0, 1) := by decide +kernel
theorem dX2_recall_2 : decode cX2_recall 2 = .ok (.getfield 24, 3) := by decide +kernel
theorem dX2_recall_5 : decode cX2_recall 5 = .ok (.getfield 29, 3) := by decide +kernel
theorem dX2_recall_8 : decode cX2_recall 8 = .ok (.putfield 35, 3) := by decide +kernel
theorem dX2_recall_11 : decode cX2_recall 11 = .ok (.aload_n 0, 1) := by decide +kernel
theorem dX2_recall_12 : decode cX2_recall 12 = .ok (.bipush (-9), 2) := by decide +kernel
theorem dX2_recall_14 : decode cX2_recall 14 = .ok (.putfield 38, 3) := by decide +kernel
theorem dX2_recall_17 : decode cX2_recall 17 = .ok (.iconst 0, 1) := by decide +kernel
theorem dX2_recall_18 : decode cX2_recall 18 = .ok (.istore_n 1, 1) := by decide +kernel
theorem dX2_recall_19 : decode cX2_recall 19 = .ok (.iload_n 1, 1) := by decide +kernel
theorem dX2_recall_20 : decode cX2_recall 20 = .ok (.aload_n 0, 1) := by decide +kernel
theorem dX2_recall_21 : decode cX2_recall 21 = .ok (.getfield 24, 3) := by decide +kernel
theorem dX2_recall_24 : decode cX2_recall 24 = .ok (.getfield 41, 3) := by decide +kernel
theorem dX2_recall_27 : decode cX2_recall 27 = .ok (.if_icmp .ge 15, 3) := by decide +kernel
theorem dX2_recall_30 : decode cX2_recall 30 = .ok (.aload_n 0, 1) := by decide +kernel
theorem dX2_recall_31 : decode cX2_recall 31 = .ok (.iload_n 1, 1) := by decide +kernel
theorem dX2_recall_32 : decode cX2_recall 32 = .ok (.iload_n 1, 1) := by decide +kernel
theorem dX2_recall_33 : decode cX2_recall 33 = .ok (.invokevirtual 44, 3) := by decide +kernel
theorem dX2_recall_36 : decode cX2_recall 36 = .ok (.iinc 1 1, 3) := by decide +kernel
theorem dX2_recall_39 : decode cX2_recall 39 = .ok (.goto (-20), 3) := by decide +kernel
theorem dX2_recall_42 : decode cX2_recall 42 = .ok (.return_, 1) := by decide +kernel
theorem dX2_leadFrom_0 : decode cX2_leadFrom 0 = .ok (.aload_n 0, 1) := by decide +kernel
theorem dX2_leadFrom_1 : decode cX2_leadFrom 1 = .ok (.getfield 24, 3) := by decide +kernel
theorem dX2_leadFrom_4 : decode cX2_leadFrom 4 = .ok (.getfield 48, 3) := by decide +kernel
theorem dX2_leadFrom_7 : decode cX2_leadFrom 7 = .ok (.iload_n 2, 1) := by decide +kernel
theorem dX2_leadFrom_8 : decode cX2_leadFrom 8 = .ok (.aaload, 1) := by decide +kernel
theorem dX2_leadFrom_9 : decode cX2_leadFrom 9 = .ok (.astore_n 3, 1) := by decide +kernel
theorem dX2_leadFrom_10 : decode cX2_leadFrom 10 = .ok (.aload_n 0, 1) := by decide +kernel
theorem dX2_leadFrom_11 : decode cX2_leadFrom 11 = .ok (.getfield 11, 3) := by decide +kernel
theorem dX2_leadFrom_14 : decode cX2_leadFrom 14 = .ok (.iload_n 1, 1) := by decide +kernel
theorem dX2_leadFrom_15 : decode cX2_leadFrom 15 = .ok (.aaload, 1) := by decide +kernel
theorem dX2_leadFrom_16 : decode cX2_leadFrom 16 = .ok (.aload_n 0, 1) := by decide +kernel
theorem dX2_leadFrom_17 : decode cX2_leadFrom 17 = .ok (.getfield 24, 3) := by decide +kernel
theorem dX2_leadFrom_20 : decode cX2_leadFrom 20 = .ok (.aload_n 3, 1) := by decide +kernel
theorem dX2_leadFrom_21 : decode cX2_leadFrom 21 = .ok (.getfield 52, 3) := by decide +kernel
theorem dX2_leadFrom_24 : decode cX2_leadFrom 24 = .ok (.aload_n 3, 1) := by decide +kernel
theorem dX2_leadFrom_25 : decode cX2_leadFrom 25 = .ok (.getfield 57, 3) := by decide +kernel
theorem dX2_leadFrom_28 : decode cX2_leadFrom 28 = .ok (.aload_n 0, 1) := by decide +kernel
theorem dX2_leadFrom_29 : decode cX2_leadFrom 29 = .ok (.getfield 24, 3) := by decide +kernel
theorem dX2_leadFrom_32 : decode cX2_leadFrom 32 = .ok (.getfield 48, 3) := by decide +kernel
theorem dX2_leadFrom_35 : decode cX2_leadFrom 35 = .ok (.iload_n 1, 1) := by decide +kernel
theorem dX2_leadFrom_36 : decode cX2_leadFrom 36 = .ok (.aaload, 1) := by decide +kernel
theorem dX2_leadFrom_37 : decode cX2_leadFrom 37 = .ok (.getfield 60, 3) := by decide +kernel
theorem dX2_leadFrom_40 : decode cX2_leadFrom 40 = .ok (.invokevirtual 63, 3) := by decide +kernel
theorem dX2_leadFrom_43 : decode cX2_leadFrom 43 = .ok (.return_, 1) := by decide +kernel
theorem dX2_lets_0 : decode cX2_lets 0 = .ok (.aload_n 0, 1) := by decide +kernel
theorem dX2_lets_1 : decode cX2_lets 1 = .ok (.getfield 24, 3) := by decide +kernel
theorem dX2_lets_4 : decode cX2_lets 4 = .ok (.iload_n 1, 1) := by decide +kernel
theorem dX2_lets_5 : decode cX2_lets 5 = .ok (.iload_n 2, 1) := by decide +kernel
theorem dX2_lets_6 : decode cX2_lets 6 = .ok (.invokevirtual 67, 3) := by decide +kernel
theorem dX2_lets_9 : decode cX2_lets 9 = .ok (.ifCond .eq 34, 3) := by decide +kernel
theorem dX2_lets_12 : decode cX2_lets 12 = .ok (.iload_n 1, 1) := by decide +kernel
theorem dX2_lets_13 : decode cX2_lets 13 = .ok (.aload_n 0, 1) := by decide +kernel
theorem dX2_lets_14 : decode cX2_lets 14 = .ok (.getfield 38, 3) := by decide +kernel
theorem dX2_lets_17 : decode cX2_lets 17 = .ok (.if_icmp .eq 22, 3) := by decide +kernel
theorem dX2_lets_20 : decode cX2_lets 20 = .ok (.aload_n 0, 1) := by decide +kernel
theorem dX2_lets_21 : decode cX2_lets 21 = .ok (.getfield 24, 3) := by decide +kernel
theorem dX2_lets_24 : decode cX2_lets 24 = .ok (.aload_n 0, 1) := by decide +kernel
theorem dX2_lets_25 : decode cX2_lets 25 = .ok (.getfield 35, 3) := by decide +kernel
theorem dX2_lets_28 : decode cX2_lets 28 = .ok (.iload_n 1, 1) := by decide +kernel
theorem dX2_lets_29 : decode cX2_lets 29 = .ok (.iload_n 2, 1) := by decide +kernel
theorem dX2_lets_30 : decode cX2_lets 30 = .ok (.iload_n 3, 1) := by decide +kernel
theorem dX2_lets_31 : decode cX2_lets 31 = .ok (.bipush (-9), 2) := by decide +kernel
theorem dX2_lets_33 : decode cX2_lets 33 = .ok (.invokevirtual 71, 3) := by decide +kernel
theorem dX2_lets_36 : decode cX2_lets 36 = .ok (.ifCond .eq 7, 3) := by decide +kernel
theorem dX2_lets_39 : decode cX2_lets 39 = .ok (.iconst 1, 1) := by decide +kernel
theorem dX2_lets_40 : decode cX2_lets 40 = .ok (.goto 4, 3) := by decide +kernel
theorem dX2_lets_43 : decode cX2_lets 43 = .ok (.iconst 0, 1) := by decide +kernel
theorem dX2_lets_44 : decode cX2_lets 44 = .ok (.ireturn, 1) := by decide +kernel
theorem dX2_soonestOf_0 : decode cX2_soonestOf 0 = .ok (.aload_n 0, 1) := by decide +kernel
theorem dX2_soonestOf_1 : decode cX2_soonestOf 1 = .ok (.getfield 24, 3) := by decide +kernel
theorem dX2_soonestOf_4 : decode cX2_soonestOf 4 = .ok (.getfield 75, 3) := by decide +kernel
theorem dX2_soonestOf_7 : decode cX2_soonestOf 7 = .ok (.iload_n 1, 1) := by decide +kernel
theorem dX2_soonestOf_8 : decode cX2_soonestOf 8 = .ok (.aaload, 1) := by decide +kernel
theorem dX2_soonestOf_9 : decode cX2_soonestOf 9 = .ok (.astore_n 2, 1) := by decide +kernel
theorem dX2_soonestOf_10 : decode cX2_soonestOf 10 = .ok (.aload_n 0, 1) := by decide +kernel
theorem dX2_soonestOf_11 : decode cX2_soonestOf 11 = .ok (.getfield 17, 3) := by decide +kernel
theorem dX2_soonestOf_14 : decode cX2_soonestOf 14 = .ok (.ldc 79, 2) := by decide +kernel
theorem dX2_soonestOf_16 : decode cX2_soonestOf 16 = .ok (.invokestatic 80, 3) := by decide +kernel
theorem dX2_soonestOf_19 : decode cX2_soonestOf 19 = .ok (.aload_n 0, 1) := by decide +kernel
theorem dX2_soonestOf_20 : decode cX2_soonestOf 20 = .ok (.getfield 17, 3) := by decide +kernel
theorem dX2_soonestOf_23 : decode cX2_soonestOf 23 = .ok (.aload_n 2, 1) := by decide +kernel
theorem dX2_soonestOf_24 : decode cX2_soonestOf 24 = .ok (.getfield 86, 3) := by decide +kernel
theorem dX2_soonestOf_27 : decode cX2_soonestOf 27 = .ok (.iconst 0, 1) := by decide +kernel
theorem dX2_soonestOf_28 : decode cX2_soonestOf 28 = .ok (.iastore, 1) := by decide +kernel
theorem dX2_soonestOf_29 : decode cX2_soonestOf 29 = .ok (.iconst 1, 1) := by decide +kernel
theorem dX2_soonestOf_30 : decode cX2_soonestOf 30 = .ok (.istore_n 3, 1) := by decide +kernel
theorem dX2_soonestOf_31 : decode cX2_soonestOf 31 = .ok (.iconst 0, 1) := by decide +kernel
theorem dX2_soonestOf_32 : decode cX2_soonestOf 32 = .ok (.istore 4, 2) := by decide +kernel
theorem dX2_soonestOf_34 : decode cX2_soonestOf 34 = .ok (.iload 4, 2) := by decide +kernel
theorem dX2_soonestOf_36 : decode cX2_soonestOf 36 = .ok (.bipush 7, 2) := by decide +kernel
theorem dX2_soonestOf_38 : decode cX2_soonestOf 38 = .ok (.if_icmp .gt 46, 3) := by decide +kernel
theorem dX2_soonestOf_41 : decode cX2_soonestOf 41 = .ok (.iload_n 3, 1) := by decide +kernel
theorem dX2_soonestOf_42 : decode cX2_soonestOf 42 = .ok (.ifCond .eq 42, 3) := by decide +kernel
theorem dX2_soonestOf_45 : decode cX2_soonestOf 45 = .ok (.iconst 0, 1) := by decide +kernel
theorem dX2_soonestOf_46 : decode cX2_soonestOf 46 = .ok (.istore_n 3, 1) := by decide +kernel
theorem dX2_soonestOf_47 : decode cX2_soonestOf 47 = .ok (.iconst 0, 1) := by decide +kernel
theorem dX2_soonestOf_48 : decode cX2_soonestOf 48 = .ok (.istore 5, 2) := by decide +kernel
theorem dX2_soonestOf_50 : decode cX2_soonestOf 50 = .ok (.iload 5, 2) := by decide +kernel
theorem dX2_soonestOf_52 : decode cX2_soonestOf 52 = .ok (.aload_n 0, 1) := by decide +kernel
theorem dX2_soonestOf_53 : decode cX2_soonestOf 53 = .ok (.getfield 24, 3) := by decide +kernel
theorem dX2_soonestOf_56 : decode cX2_soonestOf 56 = .ok (.getfield 41, 3) := by decide +kernel
theorem dX2_soonestOf_59 : decode cX2_soonestOf 59 = .ok (.if_icmp .ge 19, 3) := by decide +kernel
theorem dX2_soonestOf_62 : decode cX2_soonestOf 62 = .ok (.iload_n 3, 1) := by decide +kernel
theorem dX2_soonestOf_63 : decode cX2_soonestOf 63 = .ok (.aload_n 0, 1) := by decide +kernel
theorem dX2_soonestOf_64 : decode cX2_soonestOf 64 = .ok (.iload 5, 2) := by decide +kernel
theorem dX2_soonestOf_66 : decode cX2_soonestOf 66 = .ok (.iload_n 1, 1) := by decide +kernel
theorem dX2_soonestOf_67 : decode cX2_soonestOf 67 = .ok (.invokevirtual 89, 3) := by decide +kernel
theorem dX2_soonestOf_70 : decode cX2_soonestOf 70 = .ok (.ior, 1) := by decide +kernel
theorem dX2_soonestOf_71 : decode cX2_soonestOf 71 = .ok (.istore_n 3, 1) := by decide +kernel
theorem dX2_soonestOf_72 : decode cX2_soonestOf 72 = .ok (.iinc 5 1, 3) := by decide +kernel
theorem dX2_soonestOf_75 : decode cX2_soonestOf 75 = .ok (.goto (-25), 3) := by decide +kernel
theorem dX2_soonestOf_78 : decode cX2_soonestOf 78 = .ok (.iinc 4 1, 3) := by decide +kernel
theorem dX2_soonestOf_81 : decode cX2_soonestOf 81 = .ok (.goto (-47), 3) := by decide +kernel
theorem dX2_soonestOf_84 : decode cX2_soonestOf 84 = .ok (.aload_n 0, 1) := by decide +kernel
theorem dX2_soonestOf_85 : decode cX2_soonestOf 85 = .ok (.getfield 17, 3) := by decide +kernel
theorem dX2_soonestOf_88 : decode cX2_soonestOf 88 = .ok (.aload_n 2, 1) := by decide +kernel
theorem dX2_soonestOf_89 : decode cX2_soonestOf 89 = .ok (.getfield 92, 3) := by decide +kernel
theorem dX2_soonestOf_92 : decode cX2_soonestOf 92 = .ok (.iaload, 1) := by decide +kernel
theorem dX2_soonestOf_93 : decode cX2_soonestOf 93 = .ok (.ldc 79, 2) := by decide +kernel
theorem dX2_soonestOf_95 : decode cX2_soonestOf 95 = .ok (.if_icmp .lt 8, 3) := by decide +kernel
theorem dX2_soonestOf_98 : decode cX2_soonestOf 98 = .ok (.bipush (-9), 2) := by decide +kernel
theorem dX2_soonestOf_100 : decode cX2_soonestOf 100 = .ok (.goto 12, 3) := by decide +kernel
theorem dX2_soonestOf_103 : decode cX2_soonestOf 103 = .ok (.aload_n 0, 1) := by decide +kernel
theorem dX2_soonestOf_104 : decode cX2_soonestOf 104 = .ok (.getfield 17, 3) := by decide +kernel
theorem dX2_soonestOf_107 : decode cX2_soonestOf 107 = .ok (.aload_n 2, 1) := by decide +kernel
theorem dX2_soonestOf_108 : decode cX2_soonestOf 108 = .ok (.getfield 92, 3) := by decide +kernel
theorem dX2_soonestOf_111 : decode cX2_soonestOf 111 = .ok (.iaload, 1) := by decide +kernel
theorem dX2_soonestOf_112 : decode cX2_soonestOf 112 = .ok (.ireturn, 1) := by decide +kernel
theorem dX2_carryAlong_0 : decode cX2_carryAlong 0 = .ok (.aload_n 0, 1) := by decide +kernel
theorem dX2_carryAlong_1 : decode cX2_carryAlong 1 = .ok (.getfield 11, 3) := by decide +kernel
theorem dX2_carryAlong_4 : decode cX2_carryAlong 4 = .ok (.iload_n 1, 1) := by decide +kernel
theorem dX2_carryAlong_5 : decode cX2_carryAlong 5 = .ok (.aaload, 1) := by decide +kernel
theorem dX2_carryAlong_6 : decode cX2_carryAlong 6 = .ok (.astore_n 3, 1) := by decide +kernel
theorem dX2_carryAlong_7 : decode cX2_carryAlong 7 = .ok (.iconst 0, 1) := by decide +kernel
theorem dX2_carryAlong_8 : decode cX2_carryAlong 8 = .ok (.istore 4, 2) := by decide +kernel
theorem dX2_carryAlong_10 : decode cX2_carryAlong 10 = .ok (.iconst 0, 1) := by decide +kernel
theorem dX2_carryAlong_11 : decode cX2_carryAlong 11 = .ok (.istore 5, 2) := by decide +kernel
theorem dX2_carryAlong_13 : decode cX2_carryAlong 13 = .ok (.iconst 0, 1) := by decide +kernel
theorem dX2_carryAlong_14 : decode cX2_carryAlong 14 = .ok (.istore 6, 2) := by decide +kernel
theorem dX2_carryAlong_16 : decode cX2_carryAlong 16 = .ok (.iload 6, 2) := by decide +kernel
theorem dX2_carryAlong_18 : decode cX2_carryAlong 18 = .ok (.aload_n 3, 1) := by decide +kernel
theorem dX2_carryAlong_19 : decode cX2_carryAlong 19 = .ok (.getfield 93, 3) := by decide +kernel
theorem dX2_carryAlong_22 : decode cX2_carryAlong 22 = .ok (.if_icmp .ge 102, 3) := by decide +kernel
theorem dX2_carryAlong_25 : decode cX2_carryAlong 25 = .ok (.aload_n 3, 1) := by decide +kernel
theorem dX2_carryAlong_26 : decode cX2_carryAlong 26 = .ok (.getfield 96, 3) := by decide +kernel
theorem dX2_carryAlong_29 : decode cX2_carryAlong 29 = .ok (.iload 6, 2) := by decide +kernel
theorem dX2_carryAlong_31 : decode cX2_carryAlong 31 = .ok (.iaload, 1) := by decide +kernel
theorem dX2_carryAlong_32 : decode cX2_carryAlong 32 = .ok (.istore 7, 2) := by decide +kernel
theorem dX2_carryAlong_34 : decode cX2_carryAlong 34 = .ok (.iload 4, 2) := by decide +kernel
theorem dX2_carryAlong_36 : decode cX2_carryAlong 36 = .ok (.ifCond .eq 37, 3) := by decide +kernel
theorem dX2_carryAlong_39 : decode cX2_carryAlong 39 = .ok (.aload_n 3, 1) := by decide +kernel
theorem dX2_carryAlong_40 : decode cX2_carryAlong 40 = .ok (.getfield 99, 3) := by decide +kernel
theorem dX2_carryAlong_43 : decode cX2_carryAlong 43 = .ok (.iload 6, 2) := by decide +kernel
theorem dX2_carryAlong_45 : decode cX2_carryAlong 45 = .ok (.iaload, 1) := by decide +kernel
theorem dX2_carryAlong_46 : decode cX2_carryAlong 46 = .ok (.aload_n 0, 1) := by decide +kernel
theorem dX2_carryAlong_47 : decode cX2_carryAlong 47 = .ok (.getfield 17, 3) := by decide +kernel
theorem dX2_carryAlong_50 : decode cX2_carryAlong 50 = .ok (.iload 7, 2) := by decide +kernel
theorem dX2_carryAlong_52 : decode cX2_carryAlong 52 = .ok (.iaload, 1) := by decide +kernel
theorem dX2_carryAlong_53 : decode cX2_carryAlong 53 = .ok (.if_icmp .ge 20, 3) := by decide +kernel
theorem dX2_carryAlong_56 : decode cX2_carryAlong 56 = .ok (.aload_n 0, 1) := by decide +kernel
theorem dX2_carryAlong_57 : decode cX2_carryAlong 57 = .ok (.getfield 17, 3) := by decide +kernel
theorem dX2_carryAlong_60 : decode cX2_carryAlong 60 = .ok (.iload 7, 2) := by decide +kernel
theorem dX2_carryAlong_62 : decode cX2_carryAlong 62 = .ok (.aload_n 3, 1) := by decide +kernel
theorem dX2_carryAlong_63 : decode cX2_carryAlong 63 = .ok (.getfield 99, 3) := by decide +kernel
theorem dX2_carryAlong_66 : decode cX2_carryAlong 66 = .ok (.iload 6, 2) := by decide +kernel
theorem dX2_carryAlong_68 : decode cX2_carryAlong 68 = .ok (.iaload, 1) := by decide +kernel
theorem dX2_carryAlong_69 : decode cX2_carryAlong 69 = .ok (.iastore, 1) := by decide +kernel
theorem dX2_carryAlong_70 : decode cX2_carryAlong 70 = .ok (.iconst 1, 1) := by decide +kernel
theorem dX2_carryAlong_71 : decode cX2_carryAlong 71 = .ok (.istore 5, 2) := by decide +kernel
theorem dX2_carryAlong_73 : decode cX2_carryAlong 73 = .ok (.iload 4, 2) := by decide +kernel
theorem dX2_carryAlong_75 : decode cX2_carryAlong 75 = .ok (.ifCond .ne 36, 3) := by decide +kernel
theorem dX2_carryAlong_78 : decode cX2_carryAlong 78 = .ok (.aload_n 0, 1) := by decide +kernel
theorem dX2_carryAlong_79 : decode cX2_carryAlong 79 = .ok (.getfield 17, 3) := by decide +kernel
theorem dX2_carryAlong_82 : decode cX2_carryAlong 82 = .ok (.iload 7, 2) := by decide +kernel
theorem dX2_carryAlong_84 : decode cX2_carryAlong 84 = .ok (.iaload, 1) := by decide +kernel
theorem dX2_carryAlong_85 : decode cX2_carryAlong 85 = .ok (.aload_n 3, 1) := by decide +kernel
theorem dX2_carryAlong_86 : decode cX2_carryAlong 86 = .ok (.getfield 99, 3) := by decide +kernel
theorem dX2_carryAlong_89 : decode cX2_carryAlong 89 = .ok (.iload 6, 2) := by decide +kernel
theorem dX2_carryAlong_91 : decode cX2_carryAlong 91 = .ok (.iaload, 1) := by decide +kernel
theorem dX2_carryAlong_92 : decode cX2_carryAlong 92 = .ok (.if_icmp .gt 23, 3) := by decide +kernel
theorem dX2_carryAlong_95 : decode cX2_carryAlong 95 = .ok (.aload_n 0, 1) := by decide +kernel
theorem dX2_carryAlong_96 : decode cX2_carryAlong 96 = .ok (.iload_n 1, 1) := by decide +kernel
theorem dX2_carryAlong_97 : decode cX2_carryAlong 97 = .ok (.iload_n 2, 1) := by decide +kernel
theorem dX2_carryAlong_98 : decode cX2_carryAlong 98 = .ok (.aload_n 3, 1) := by decide +kernel
theorem dX2_carryAlong_99 : decode cX2_carryAlong 99 = .ok (.getfield 99, 3) := by decide +kernel
theorem dX2_carryAlong_102 : decode cX2_carryAlong 102 = .ok (.iload 6, 2) := by decide +kernel
theorem dX2_carryAlong_104 : decode cX2_carryAlong 104 = .ok (.iaload, 1) := by decide +kernel
theorem dX2_carryAlong_105 : decode cX2_carryAlong 105 = .ok (.invokevirtual 102, 3) := by decide +kernel
theorem dX2_carryAlong_108 : decode cX2_carryAlong 108 = .ok (.ifCond .eq 7, 3) := by decide +kernel
theorem dX2_carryAlong_111 : decode cX2_carryAlong 111 = .ok (.iconst 1, 1) := by decide +kernel
theorem dX2_carryAlong_112 : decode cX2_carryAlong 112 = .ok (.goto 4, 3) := by decide +kernel
theorem dX2_carryAlong_115 : decode cX2_carryAlong 115 = .ok (.iconst 0, 1) := by decide +kernel
theorem dX2_carryAlong_116 : decode cX2_carryAlong 116 = .ok (.istore 4, 2) := by decide +kernel
theorem dX2_carryAlong_118 : decode cX2_carryAlong 118 = .ok (.iinc 6 1, 3) := by decide +kernel
theorem dX2_carryAlong_121 : decode cX2_carryAlong 121 = .ok (.goto (-105), 3) := by decide +kernel
theorem dX2_carryAlong_124 : decode cX2_carryAlong 124 = .ok (.iload 5, 2) := by decide +kernel
theorem dX2_carryAlong_126 : decode cX2_carryAlong 126 = .ok (.ireturn, 1) := by decide +kernel
theorem dX2_traceBack_0 : decode cX2_traceBack 0 = .ok (.aload_n 0, 1) := by decide +kernel
theorem dX2_traceBack_1 : decode cX2_traceBack 1 = .ok (.getfield 24, 3) := by decide +kernel
theorem dX2_traceBack_4 : decode cX2_traceBack 4 = .ok (.getfield 75, 3) := by decide +kernel
theorem dX2_traceBack_7 : decode cX2_traceBack 7 = .ok (.iload_n 1, 1) := by decide +kernel
theorem dX2_traceBack_8 : decode cX2_traceBack 8 = .ok (.aaload, 1) := by decide +kernel
theorem dX2_traceBack_9 : decode cX2_traceBack 9 = .ok (.astore_n 2, 1) := by decide +kernel
theorem dX2_traceBack_10 : decode cX2_traceBack 10 = .ok (.aload_n 2, 1) := by decide +kernel
theorem dX2_traceBack_11 : decode cX2_traceBack 11 = .ok (.getfield 92, 3) := by decide +kernel
theorem dX2_traceBack_14 : decode cX2_traceBack 14 = .ok (.istore_n 3, 1) := by decide +kernel
theorem dX2_traceBack_15 : decode cX2_traceBack 15 = .ok (.aload_n 0, 1) := by decide +kernel
theorem dX2_traceBack_16 : decode cX2_traceBack 16 = .ok (.iconst 0, 1) := by decide +kernel
theorem dX2_traceBack_17 : decode cX2_traceBack 17 = .ok (.putfield 106, 3) := by decide +kernel
theorem dX2_traceBack_20 : decode cX2_traceBack 20 = .ok (.iconst 0, 1) := by decide +kernel
theorem dX2_traceBack_21 : decode cX2_traceBack 21 = .ok (.istore 4, 2) := by decide +kernel
theorem dX2_traceBack_23 : decode cX2_traceBack 23 = .ok (.iload 4, 2) := by decide +kernel
theorem dX2_traceBack_25 : decode cX2_traceBack 25 = .ok (.bipush 7, 2) := by decide +kernel
theorem dX2_traceBack_27 : decode cX2_traceBack 27 = .ok (.if_icmp .ge 24, 3) := by decide +kernel
theorem dX2_traceBack_30 : decode cX2_traceBack 30 = .ok (.iload_n 3, 1) := by decide +kernel
theorem dX2_traceBack_31 : decode cX2_traceBack 31 = .ok (.aload_n 2, 1) := by decide +kernel
theorem dX2_traceBack_32 : decode cX2_traceBack 32 = .ok (.getfield 86, 3) := by decide +kernel
theorem dX2_traceBack_35 : decode cX2_traceBack 35 = .ok (.if_icmp .eq 16, 3) := by decide +kernel
theorem dX2_traceBack_38 : decode cX2_traceBack 38 = .ok (.aload_n 0, 1) := by decide +kernel
theorem dX2_traceBack_39 : decode cX2_traceBack 39 = .ok (.iload_n 1, 1) := by decide +kernel
theorem dX2_traceBack_40 : decode cX2_traceBack 40 = .ok (.iload_n 3, 1) := by decide +kernel
theorem dX2_traceBack_41 : decode cX2_traceBack 41 = .ok (.invokevirtual 109, 3) := by decide +kernel
theorem dX2_traceBack_44 : decode cX2_traceBack 44 = .ok (.istore_n 3, 1) := by decide +kernel
theorem dX2_traceBack_45 : decode cX2_traceBack 45 = .ok (.iinc 4 1, 3) := by decide +kernel
theorem dX2_traceBack_48 : decode cX2_traceBack 48 = .ok (.goto (-25), 3) := by decide +kernel
theorem dX2_traceBack_51 : decode cX2_traceBack 51 = .ok (.return_, 1) := by decide +kernel
theorem dX2_traceStep_0 : decode cX2_traceStep 0 = .ok (.iconst 0, 1) := by decide +kernel
theorem dX2_traceStep_1 : decode cX2_traceStep 1 = .ok (.istore_n 3, 1) := by decide +kernel
theorem dX2_traceStep_2 : decode cX2_traceStep 2 = .ok (.iload_n 3, 1) := by decide +kernel
theorem dX2_traceStep_3 : decode cX2_traceStep 3 = .ok (.aload_n 0, 1) := by decide +kernel
theorem dX2_traceStep_4 : decode cX2_traceStep 4 = .ok (.getfield 24, 3) := by decide +kernel
theorem dX2_traceStep_7 : decode cX2_traceStep 7 = .ok (.getfield 41, 3) := by decide +kernel
theorem dX2_traceStep_10 : decode cX2_traceStep 10 = .ok (.if_icmp .ge 110, 3) := by decide +kernel
theorem dX2_traceStep_13 : decode cX2_traceStep 13 = .ok (.aload_n 0, 1) := by decide +kernel
theorem dX2_traceStep_14 : decode cX2_traceStep 14 = .ok (.getfield 11, 3) := by decide +kernel
theorem dX2_traceStep_17 : decode cX2_traceStep 17 = .ok (.iload_n 3, 1) := by decide +kernel
theorem dX2_traceStep_18 : decode cX2_traceStep 18 = .ok (.aaload, 1) := by decide +kernel
theorem dX2_traceStep_19 : decode cX2_traceStep 19 = .ok (.iload_n 2, 1) := by decide +kernel
theorem dX2_traceStep_20 : decode cX2_traceStep 20 = .ok (.invokevirtual 113, 3) := by decide +kernel
theorem dX2_traceStep_23 : decode cX2_traceStep 23 = .ok (.istore 4, 2) := by decide +kernel
theorem dX2_traceStep_25 : decode cX2_traceStep 25 = .ok (.iload 4, 2) := by decide +kernel
theorem dX2_traceStep_27 : decode cX2_traceStep 27 = .ok (.ifCond .lt 87, 3) := by decide +kernel
theorem dX2_traceStep_30 : decode cX2_traceStep 30 = .ok (.aload_n 0, 1) := by decide +kernel
theorem dX2_traceStep_31 : decode cX2_traceStep 31 = .ok (.getfield 11, 3) := by decide +kernel
theorem dX2_traceStep_34 : decode cX2_traceStep 34 = .ok (.iload_n 3, 1) := by decide +kernel
theorem dX2_traceStep_35 : decode cX2_traceStep 35 = .ok (.aaload, 1) := by decide +kernel
theorem dX2_traceStep_36 : decode cX2_traceStep 36 = .ok (.getfield 99, 3) := by decide +kernel
theorem dX2_traceStep_39 : decode cX2_traceStep 39 = .ok (.iload 4, 2) := by decide +kernel
theorem dX2_traceStep_41 : decode cX2_traceStep 41 = .ok (.iaload, 1) := by decide +kernel
theorem dX2_traceStep_42 : decode cX2_traceStep 42 = .ok (.aload_n 0, 1) := by decide +kernel
theorem dX2_traceStep_43 : decode cX2_traceStep 43 = .ok (.getfield 17, 3) := by decide +kernel
theorem dX2_traceStep_46 : decode cX2_traceStep 46 = .ok (.iload_n 2, 1) := by decide +kernel
theorem dX2_traceStep_47 : decode cX2_traceStep 47 = .ok (.iaload, 1) := by decide +kernel
theorem dX2_traceStep_48 : decode cX2_traceStep 48 = .ok (.if_icmp .eq 6, 3) := by decide +kernel
theorem dX2_traceStep_51 : decode cX2_traceStep 51 = .ok (.goto 63, 3) := by decide +kernel
theorem dX2_traceStep_54 : decode cX2_traceStep 54 = .ok (.aload_n 0, 1) := by decide +kernel
theorem dX2_traceStep_55 : decode cX2_traceStep 55 = .ok (.iload_n 3, 1) := by decide +kernel
theorem dX2_traceStep_56 : decode cX2_traceStep 56 = .ok (.iload_n 1, 1) := by decide +kernel
theorem dX2_traceStep_57 : decode cX2_traceStep 57 = .ok (.iload 4, 2) := by decide +kernel
theorem dX2_traceStep_59 : decode cX2_traceStep 59 = .ok (.invokevirtual 117, 3) := by decide +kernel
theorem dX2_traceStep_62 : decode cX2_traceStep 62 = .ok (.istore 5, 2) := by decide +kernel
theorem dX2_traceStep_64 : decode cX2_traceStep 64 = .ok (.iload 5, 2) := by decide +kernel
theorem dX2_traceStep_66 : decode cX2_traceStep 66 = .ok (.ifCond .lt 48, 3) := by decide +kernel
theorem dX2_traceStep_69 : decode cX2_traceStep 69 = .ok (.aload_n 0, 1) := by decide +kernel
theorem dX2_traceStep_70 : decode cX2_traceStep 70 = .ok (.getfield 106, 3) := by decide +kernel
theorem dX2_traceStep_73 : decode cX2_traceStep 73 = .ok (.aload_n 0, 1) := by decide +kernel
theorem dX2_traceStep_74 : decode cX2_traceStep 74 = .ok (.getfield 21, 3) := by decide +kernel
theorem dX2_traceStep_77 : decode cX2_traceStep 77 = .ok (.arraylength, 1) := by decide +kernel
theorem dX2_traceStep_78 : decode cX2_traceStep 78 = .ok (.if_icmp .ge 36, 3) := by decide +kernel
theorem dX2_traceStep_81 : decode cX2_traceStep 81 = .ok (.aload_n 0, 1) := by decide +kernel
theorem dX2_traceStep_82 : decode cX2_traceStep 82 = .ok (.getfield 21, 3) := by decide +kernel
theorem dX2_traceStep_85 : decode cX2_traceStep 85 = .ok (.aload_n 0, 1) := by decide +kernel
theorem dX2_traceStep_86 : decode cX2_traceStep 86 = .ok (.getfield 106, 3) := by decide +kernel
theorem dX2_traceStep_89 : decode cX2_traceStep 89 = .ok (.iload_n 3, 1) := by decide +kernel
theorem dX2_traceStep_90 : decode cX2_traceStep 90 = .ok (.iastore, 1) := by decide +kernel
theorem dX2_traceStep_91 : decode cX2_traceStep 91 = .ok (.aload_n 0, 1) := by decide +kernel
theorem dX2_traceStep_92 : decode cX2_traceStep 92 = .ok (.dup, 1) := by decide +kernel
theorem dX2_traceStep_93 : decode cX2_traceStep 93 = .ok (.getfield 106, 3) := by decide +kernel
theorem dX2_traceStep_96 : decode cX2_traceStep 96 = .ok (.iconst 1, 1) := by decide +kernel
theorem dX2_traceStep_97 : decode cX2_traceStep 97 = .ok (.iadd, 1) := by decide +kernel
theorem dX2_traceStep_98 : decode cX2_traceStep 98 = .ok (.putfield 106, 3) := by decide +kernel
theorem dX2_traceStep_101 : decode cX2_traceStep 101 = .ok (.aload_n 0, 1) := by decide +kernel
theorem dX2_traceStep_102 : decode cX2_traceStep 102 = .ok (.getfield 11, 3) := by decide +kernel
theorem dX2_traceStep_105 : decode cX2_traceStep 105 = .ok (.iload_n 3, 1) := by decide +kernel
theorem dX2_traceStep_106 : decode cX2_traceStep 106 = .ok (.aaload, 1) := by decide +kernel
theorem dX2_traceStep_107 : decode cX2_traceStep 107 = .ok (.getfield 96, 3) := by decide +kernel
theorem dX2_traceStep_110 : decode cX2_traceStep 110 = .ok (.iload 5, 2) := by decide +kernel
theorem dX2_traceStep_112 : decode cX2_traceStep 112 = .ok (.iaload, 1) := by decide +kernel
theorem dX2_traceStep_113 : decode cX2_traceStep 113 = .ok (.ireturn, 1) := by decide +kernel
theorem dX2_traceStep_114 : decode cX2_traceStep 114 = .ok (.iinc 3 1, 3) := by decide +kernel
theorem dX2_traceStep_117 : decode cX2_traceStep 117 = .ok (.goto (-115), 3) := by decide +kernel
theorem dX2_traceStep_120 : decode cX2_traceStep 120 = .ok (.aload_n 0, 1) := by decide +kernel
theorem dX2_traceStep_121 : decode cX2_traceStep 121 = .ok (.getfield 24, 3) := by decide +kernel
theorem dX2_traceStep_124 : decode cX2_traceStep 124 = .ok (.getfield 75, 3) := by decide +kernel
theorem dX2_traceStep_127 : decode cX2_traceStep 127 = .ok (.iload_n 1, 1) := by decide +kernel
theorem dX2_traceStep_128 : decode cX2_traceStep 128 = .ok (.aaload, 1) := by decide +kernel
theorem dX2_traceStep_129 : decode cX2_traceStep 129 = .ok (.getfield 86, 3) := by decide +kernel
theorem dX2_traceStep_132 : decode cX2_traceStep 132 = .ok (.ireturn, 1) := by decide +kernel
theorem dX2_lastStart_0 : decode cX2_lastStart 0 = .ok (.aload_n 0, 1) := by decide +kernel
theorem dX2_lastStart_1 : decode cX2_lastStart 1 = .ok (.getfield 11, 3) := by decide +kernel
theorem dX2_lastStart_4 : decode cX2_lastStart 4 = .ok (.iload_n 1, 1) := by decide +kernel
theorem dX2_lastStart_5 : decode cX2_lastStart 5 = .ok (.aaload, 1) := by decide +kernel
theorem dX2_lastStart_6 : decode cX2_lastStart 6 = .ok (.astore 4, 2) := by decide +kernel
theorem dX2_lastStart_8 : decode cX2_lastStart 8 = .ok (.iload_n 3, 1) := by decide +kernel
theorem dX2_lastStart_9 : decode cX2_lastStart 9 = .ok (.iconst 1, 1) := by decide +kernel
theorem dX2_lastStart_10 : decode cX2_lastStart 10 = .ok (.isub, 1) := by decide +kernel
theorem dX2_lastStart_11 : decode cX2_lastStart 11 = .ok (.istore 5, 2) := by decide +kernel
theorem dX2_lastStart_13 : decode cX2_lastStart 13 = .ok (.iload 5, 2) := by decide +kernel
theorem dX2_lastStart_15 : decode cX2_lastStart 15 = .ok (.ifCond .lt 53, 3) := by decide +kernel
theorem dX2_lastStart_18 : decode cX2_lastStart 18 = .ok (.aload_n 0, 1) := by decide +kernel
theorem dX2_lastStart_19 : decode cX2_lastStart 19 = .ok (.getfield 17, 3) := by decide +kernel
theorem dX2_lastStart_22 : decode cX2_lastStart 22 = .ok (.aload 4, 2) := by decide +kernel
theorem dX2_lastStart_24 : decode cX2_lastStart 24 = .ok (.getfield 96, 3) := by decide +kernel
theorem dX2_lastStart_27 : decode cX2_lastStart 27 = .ok (.iload 5, 2) := by decide +kernel
theorem dX2_lastStart_29 : decode cX2_lastStart 29 = .ok (.iaload, 1) := by decide +kernel
theorem dX2_lastStart_30 : decode cX2_lastStart 30 = .ok (.iaload, 1) := by decide +kernel
theorem dX2_lastStart_31 : decode cX2_lastStart 31 = .ok (.aload 4, 2) := by decide +kernel
theorem dX2_lastStart_33 : decode cX2_lastStart 33 = .ok (.getfield 99, 3) := by decide +kernel
theorem dX2_lastStart_36 : decode cX2_lastStart 36 = .ok (.iload 5, 2) := by decide +kernel
theorem dX2_lastStart_38 : decode cX2_lastStart 38 = .ok (.iaload, 1) := by decide +kernel
theorem dX2_lastStart_39 : decode cX2_lastStart 39 = .ok (.if_icmp .gt 23, 3) := by decide +kernel
theorem dX2_lastStart_42 : decode cX2_lastStart 42 = .ok (.aload_n 0, 1) := by decide +kernel
theorem dX2_lastStart_43 : decode cX2_lastStart 43 = .ok (.iload_n 1, 1) := by decide +kernel
theorem dX2_lastStart_44 : decode cX2_lastStart 44 = .ok (.iload_n 2, 1) := by decide +kernel
theorem dX2_lastStart_45 : decode cX2_lastStart 45 = .ok (.aload 4, 2) := by decide +kernel
theorem dX2_lastStart_47 : decode cX2_lastStart 47 = .ok (.getfield 99, 3) := by decide +kernel
theorem dX2_lastStart_50 : decode cX2_lastStart 50 = .ok (.iload 5, 2) := by decide +kernel
theorem dX2_lastStart_52 : decode cX2_lastStart 52 = .ok (.iaload, 1) := by decide +kernel
theorem dX2_lastStart_53 : decode cX2_lastStart 53 = .ok (.invokevirtual 102, 3) := by decide +kernel
theorem dX2_lastStart_56 : decode cX2_lastStart 56 = .ok (.ifCond .eq 6, 3) := by decide +kernel
theorem dX2_lastStart_59 : decode cX2_lastStart 59 = .ok (.iload 5, 2) := by decide +kernel
theorem dX2_lastStart_61 : decode cX2_lastStart 61 = .ok (.ireturn, 1) := by decide +kernel
theorem dX2_lastStart_62 : decode cX2_lastStart 62 = .ok (.iinc 5 (-1), 3) := by decide +kernel
theorem dX2_lastStart_65 : decode cX2_lastStart 65 = .ok (.goto (-52), 3) := by decide +kernel
theorem dX2_lastStart_68 : decode cX2_lastStart 68 = .ok (.iconst (-1), 1) := by decide +kernel
theorem dX2_lastStart_69 : decode cX2_lastStart 69 = .ok (.ireturn, 1) := by decide +kernel
theorem dX2_carrierAt_0 : decode cX2_carrierAt 0 = .ok (.iload_n 1, 1) := by decide +kernel
theorem dX2_carrierAt_1 : decode cX2_carrierAt 1 = .ok (.ifCond .lt 27, 3) := by decide +kernel
theorem dX2_carrierAt_4 : decode cX2_carrierAt 4 = .ok (.iload_n 1, 1) := by decide +kernel
theorem dX2_carrierAt_5 : decode cX2_carrierAt 5 = .ok (.aload_n 0, 1) := by decide +kernel
theorem dX2_carrierAt_6 : decode cX2_carrierAt 6 = .ok (.getfield 106, 3) := by decide +kernel
theorem dX2_carrierAt_9 : decode cX2_carrierAt 9 = .ok (.if_icmp .ge 19, 3) := by decide +kernel
theorem dX2_carrierAt_12 : decode cX2_carrierAt 12 = .ok (.aload_n 0, 1) := by decide +kernel
theorem dX2_carrierAt_13 : decode cX2_carrierAt 13 = .ok (.getfield 21, 3) := by decide +kernel
theorem dX2_carrierAt_16 : decode cX2_carrierAt 16 = .ok (.aload_n 0, 1) := by decide +kernel
theorem dX2_carrierAt_17 : decode cX2_carrierAt 17 = .ok (.getfield 106, 3) := by decide +kernel
theorem dX2_carrierAt_20 : decode cX2_carrierAt 20 = .ok (.iconst 1, 1) := by decide +kernel
theorem dX2_carrierAt_21 : decode cX2_carrierAt 21 = .ok (.isub, 1) := by decide +kernel
theorem dX2_carrierAt_22 : decode cX2_carrierAt 22 = .ok (.iload_n 1, 1) := by decide +kernel
theorem dX2_carrierAt_23 : decode cX2_carrierAt 23 = .ok (.isub, 1) := by decide +kernel
theorem dX2_carrierAt_24 : decode cX2_carrierAt 24 = .ok (.iaload, 1) := by decide +kernel
theorem dX2_carrierAt_25 : decode cX2_carrierAt 25 = .ok (.goto 5, 3) := by decide +kernel
theorem dX2_carrierAt_28 : decode cX2_carrierAt 28 = .ok (.bipush (-9), 2) := by decide +kernel
theorem dX2_carrierAt_30 : decode cX2_carrierAt 30 = .ok (.ireturn, 1) := by decide +kernel
theorem dX2_barredBits_0 : decode cX2_barredBits 0 = .ok (.aload_n 0, 1) := by decide +kernel
theorem dX2_barredBits_1 : decode cX2_barredBits 1 = .ok (.iload_n 1, 1) := by decide +kernel
theorem dX2_barredBits_2 : decode cX2_barredBits 2 = .ok (.invokevirtual 121, 3) := by decide +kernel
theorem dX2_barredBits_5 : decode cX2_barredBits 5 = .ok (.bipush (-9), 2) := by decide +kernel
theorem dX2_barredBits_7 : decode cX2_barredBits 7 = .ok (.if_icmp .eq 5, 3) := by decide +kernel
theorem dX2_barredBits_10 : decode cX2_barredBits 10 = .ok (.iconst 0, 1) := by decide +kernel
theorem dX2_barredBits_11 : decode cX2_barredBits 11 = .ok (.ireturn, 1) := by decide +kernel
theorem dX2_barredBits_12 : decode cX2_barredBits 12 = .ok (.iconst 0, 1) := by decide +kernel
theorem dX2_barredBits_13 : decode cX2_barredBits 13 = .ok (.istore_n 2, 1) := by decide +kernel
theorem dX2_barredBits_14 : decode cX2_barredBits 14 = .ok (.iconst 0, 1) := by decide +kernel
theorem dX2_barredBits_15 : decode cX2_barredBits 15 = .ok (.istore_n 3, 1) := by decide +kernel
theorem dX2_barredBits_16 : decode cX2_barredBits 16 = .ok (.iload_n 3, 1) := by decide +kernel
theorem dX2_barredBits_17 : decode cX2_barredBits 17 = .ok (.aload_n 0, 1) := by decide +kernel
theorem dX2_barredBits_18 : decode cX2_barredBits 18 = .ok (.getfield 24, 3) := by decide +kernel
theorem dX2_barredBits_21 : decode cX2_barredBits 21 = .ok (.getfield 41, 3) := by decide +kernel
theorem dX2_barredBits_24 : decode cX2_barredBits 24 = .ok (.if_icmp .ge 30, 3) := by decide +kernel
theorem dX2_barredBits_27 : decode cX2_barredBits 27 = .ok (.aload_n 0, 1) := by decide +kernel
theorem dX2_barredBits_28 : decode cX2_barredBits 28 = .ok (.iload_n 3, 1) := by decide +kernel
theorem dX2_barredBits_29 : decode cX2_barredBits 29 = .ok (.putfield 38, 3) := by decide +kernel
theorem dX2_barredBits_32 : decode cX2_barredBits 32 = .ok (.aload_n 0, 1) := by decide +kernel
theorem dX2_barredBits_33 : decode cX2_barredBits 33 = .ok (.iload_n 1, 1) := by decide +kernel
theorem dX2_barredBits_34 : decode cX2_barredBits 34 = .ok (.invokevirtual 121, 3) := by decide +kernel
theorem dX2_barredBits_37 : decode cX2_barredBits 37 = .ok (.bipush (-9), 2) := by decide +kernel
theorem dX2_barredBits_39 : decode cX2_barredBits 39 = .ok (.if_icmp .eq 9, 3) := by decide +kernel
theorem dX2_barredBits_42 : decode cX2_barredBits 42 = .ok (.iload_n 2, 1) := by decide +kernel
theorem dX2_barredBits_43 : decode cX2_barredBits 43 = .ok (.iconst 1, 1) := by decide +kernel
theorem dX2_barredBits_44 : decode cX2_barredBits 44 = .ok (.iload_n 3, 1) := by decide +kernel
theorem dX2_barredBits_45 : decode cX2_barredBits 45 = .ok (.ishl, 1) := by decide +kernel
theorem dX2_barredBits_46 : decode cX2_barredBits 46 = .ok (.ior, 1) := by decide +kernel
theorem dX2_barredBits_47 : decode cX2_barredBits 47 = .ok (.istore_n 2, 1) := by decide +kernel
theorem dX2_barredBits_48 : decode cX2_barredBits 48 = .ok (.iinc 3 1, 3) := by decide +kernel
theorem dX2_barredBits_51 : decode cX2_barredBits 51 = .ok (.goto (-35), 3) := by decide +kernel
theorem dX2_barredBits_54 : decode cX2_barredBits 54 = .ok (.aload_n 0, 1) := by decide +kernel
theorem dX2_barredBits_55 : decode cX2_barredBits 55 = .ok (.bipush (-9), 2) := by decide +kernel
theorem dX2_barredBits_57 : decode cX2_barredBits 57 = .ok (.putfield 38, 3) := by decide +kernel
theorem dX2_barredBits_60 : decode cX2_barredBits 60 = .ok (.iload_n 2, 1) := by decide +kernel
theorem dX2_barredBits_61 : decode cX2_barredBits 61 = .ok (.ireturn, 1) := by decide +kernel
theorem dX2_somebodyComesBy_0 : decode cX2_somebodyComesBy 0 = .ok (.iconst 0, 1) := by decide +kernel
theorem dX2_somebodyComesBy_1 : decode cX2_somebodyComesBy 1 = .ok (.istore_n 3, 1) := by decide +kernel
theorem dX2_somebodyComesBy_2 : decode cX2_somebodyComesBy 2 = .ok (.iload_n 3, 1) := by decide +kernel
theorem dX2_somebodyComesBy_3 : decode cX2_somebodyComesBy 3 = .ok (.aload_n 0, 1) := by decide +kernel
theorem dX2_somebodyComesBy_4 : decode cX2_somebodyComesBy 4 = .ok (.getfield 24, 3) := by decide +kernel
theorem dX2_somebodyComesBy_7 : decode cX2_somebodyComesBy 7 = .ok (.getfield 41, 3) := by decide +kernel
theorem dX2_somebodyComesBy_10 : decode cX2_somebodyComesBy 10 = .ok (.if_icmp .ge 49, 3) := by decide +kernel
theorem dX2_somebodyComesBy_13 : decode cX2_somebodyComesBy 13 = .ok (.aload_n 0, 1) := by decide +kernel
theorem dX2_somebodyComesBy_14 : decode cX2_somebodyComesBy 14 = .ok (.getfield 11, 3) := by decide +kernel
theorem dX2_somebodyComesBy_17 : decode cX2_somebodyComesBy 17 = .ok (.iload_n 3, 1) := by decide +kernel
theorem dX2_somebodyComesBy_18 : decode cX2_somebodyComesBy 18 = .ok (.aaload, 1) := by decide +kernel
theorem dX2_somebodyComesBy_19 : decode cX2_somebodyComesBy 19 = .ok (.iload_n 2, 1) := by decide +kernel
theorem dX2_somebodyComesBy_20 : decode cX2_somebodyComesBy 20 = .ok (.invokevirtual 113, 3) := by decide +kernel
theorem dX2_somebodyComesBy_23 : decode cX2_somebodyComesBy 23 = .ok (.istore 4, 2) := by decide +kernel
theorem dX2_somebodyComesBy_25 : decode cX2_somebodyComesBy 25 = .ok (.iload 4, 2) := by decide +kernel
theorem dX2_somebodyComesBy_27 : decode cX2_somebodyComesBy 27 = .ok (.ifCond .lt 26, 3) := by decide +kernel
theorem dX2_somebodyComesBy_30 : decode cX2_somebodyComesBy 30 = .ok (.aload_n 0, 1) := by decide +kernel
theorem dX2_somebodyComesBy_31 : decode cX2_somebodyComesBy 31 = .ok (.iload_n 3, 1) := by decide +kernel
theorem dX2_somebodyComesBy_32 : decode cX2_somebodyComesBy 32 = .ok (.iload_n 1, 1) := by decide +kernel
theorem dX2_somebodyComesBy_33 : decode cX2_somebodyComesBy 33 = .ok (.aload_n 0, 1) := by decide +kernel
theorem dX2_somebodyComesBy_34 : decode cX2_somebodyComesBy 34 = .ok (.getfield 11, 3) := by decide +kernel
theorem dX2_somebodyComesBy_37 : decode cX2_somebodyComesBy 37 = .ok (.iload_n 3, 1) := by decide +kernel
theorem dX2_somebodyComesBy_38 : decode cX2_somebodyComesBy 38 = .ok (.aaload, 1) := by decide +kernel
theorem dX2_somebodyComesBy_39 : decode cX2_somebodyComesBy 39 = .ok (.getfield 99, 3) := by decide +kernel
theorem dX2_somebodyComesBy_42 : decode cX2_somebodyComesBy 42 = .ok (.iload 4, 2) := by decide +kernel
theorem dX2_somebodyComesBy_44 : decode cX2_somebodyComesBy 44 = .ok (.iaload, 1) := by decide +kernel
theorem dX2_somebodyComesBy_45 : decode cX2_somebodyComesBy 45 = .ok (.invokevirtual 102, 3) := by decide +kernel
theorem dX2_somebodyComesBy_48 : decode cX2_somebodyComesBy 48 = .ok (.ifCond .eq 5, 3) := by decide +kernel
theorem dX2_somebodyComesBy_51 : decode cX2_somebodyComesBy 51 = .ok (.iconst 1, 1) := by decide +kernel
theorem dX2_somebodyComesBy_52 : decode cX2_somebodyComesBy 52 = .ok (.ireturn, 1) := by decide +kernel
theorem dX2_somebodyComesBy_53 : decode cX2_somebodyComesBy 53 = .ok (.iinc 3 1, 3) := by decide +kernel
theorem dX2_somebodyComesBy_56 : decode cX2_somebodyComesBy 56 = .ok (.goto (-54), 3) := by decide +kernel
theorem dX2_somebodyComesBy_59 : decode cX2_somebodyComesBy 59 = .ok (.iconst 0, 1) := by decide +kernel
theorem dX2_somebodyComesBy_60 : decode cX2_somebodyComesBy 60 = .ok (.ireturn, 1) := by decide +kernel
theorem dX2_isInTime_0 : decode cX2_isInTime 0 = .ok (.aload_n 0, 1) := by decide +kernel
theorem dX2_isInTime_1 : decode cX2_isInTime 1 = .ok (.iload_n 1, 1) := by decide +kernel
theorem dX2_isInTime_2 : decode cX2_isInTime 2 = .ok (.invokevirtual 121, 3) := by decide +kernel
theorem dX2_isInTime_5 : decode cX2_isInTime 5 = .ok (.istore_n 2, 1) := by decide +kernel
theorem dX2_isInTime_6 : decode cX2_isInTime 6 = .ok (.iload_n 2, 1) := by decide +kernel
theorem dX2_isInTime_7 : decode cX2_isInTime 7 = .ok (.bipush (-9), 2) := by decide +kernel
theorem dX2_isInTime_9 : decode cX2_isInTime 9 = .ok (.if_icmp .eq 23, 3) := by decide +kernel
theorem dX2_isInTime_12 : decode cX2_isInTime 12 = .ok (.iload_n 2, 1) := by decide +kernel
theorem dX2_isInTime_13 : decode cX2_isInTime 13 = .ok (.aload_n 0, 1) := by decide +kernel
theorem dX2_isInTime_14 : decode cX2_isInTime 14 = .ok (.getfield 24, 3) := by decide +kernel
theorem dX2_isInTime_17 : decode cX2_isInTime 17 = .ok (.getfield 75, 3) := by decide +kernel
theorem dX2_isInTime_20 : decode cX2_isInTime 20 = .ok (.iload_n 1, 1) := by decide +kernel
theorem dX2_isInTime_21 : decode cX2_isInTime 21 = .ok (.aaload, 1) := by decide +kernel
theorem dX2_isInTime_22 : decode cX2_isInTime 22 = .ok (.getfield 124, 3) := by decide +kernel
theorem dX2_isInTime_25 : decode cX2_isInTime 25 = .ok (.if_icmp .gt 7, 3) := by decide +kernel
theorem dX2_isInTime_28 : decode cX2_isInTime 28 = .ok (.iconst 1, 1) := by decide +kernel
theorem dX2_isInTime_29 : decode cX2_isInTime 29 = .ok (.goto 4, 3) := by decide +kernel
theorem dX2_isInTime_32 : decode cX2_isInTime 32 = .ok (.iconst 0, 1) := by decide +kernel
theorem dX2_isInTime_33 : decode cX2_isInTime 33 = .ok (.ireturn, 1) := by decide +kernel
theorem dX2_sumOfSoonest_0 : decode cX2_sumOfSoonest 0 = .ok (.iconst 0, 1) := by decide +kernel
theorem dX2_sumOfSoonest_1 : decode cX2_sumOfSoonest 1 = .ok (.istore_n 1, 1) := by decide +kernel
theorem dX2_sumOfSoonest_2 : decode cX2_sumOfSoonest 2 = .ok (.iconst 0, 1) := by decide +kernel
theorem dX2_sumOfSoonest_3 : decode cX2_sumOfSoonest 3 = .ok (.istore_n 2, 1) := by decide +kernel
theorem dX2_sumOfSoonest_4 : decode cX2_sumOfSoonest 4 = .ok (.iload_n 2, 1) := by decide +kernel
theorem dX2_sumOfSoonest_5 : decode cX2_sumOfSoonest 5 = .ok (.aload_n 0, 1) := by decide +kernel
theorem dX2_sumOfSoonest_6 : decode cX2_sumOfSoonest 6 = .ok (.getfield 24, 3) := by decide +kernel
theorem dX2_sumOfSoonest_9 : decode cX2_sumOfSoonest 9 = .ok (.getfield 127, 3) := by decide +kernel
theorem dX2_sumOfSoonest_12 : decode cX2_sumOfSoonest 12 = .ok (.if_icmp .ge 31, 3) := by decide +kernel
theorem dX2_sumOfSoonest_15 : decode cX2_sumOfSoonest 15 = .ok (.aload_n 0, 1) := by decide +kernel
theorem dX2_sumOfSoonest_16 : decode cX2_sumOfSoonest 16 = .ok (.iload_n 2, 1) := by decide +kernel
theorem dX2_sumOfSoonest_17 : decode cX2_sumOfSoonest 17 = .ok (.invokevirtual 121, 3) := by decide +kernel
theorem dX2_sumOfSoonest_20 : decode cX2_sumOfSoonest 20 = .ok (.istore_n 3, 1) := by decide +kernel
theorem dX2_sumOfSoonest_21 : decode cX2_sumOfSoonest 21 = .ok (.iload_n 1, 1) := by decide +kernel
theorem dX2_sumOfSoonest_22 : decode cX2_sumOfSoonest 22 = .ok (.iload_n 3, 1) := by decide +kernel
theorem dX2_sumOfSoonest_23 : decode cX2_sumOfSoonest 23 = .ok (.bipush (-9), 2) := by decide +kernel
theorem dX2_sumOfSoonest_25 : decode cX2_sumOfSoonest 25 = .ok (.if_icmp .ne 9, 3) := by decide +kernel
theorem dX2_sumOfSoonest_28 : decode cX2_sumOfSoonest 28 = .ok (.sipush 999, 3) := by decide +kernel
theorem dX2_sumOfSoonest_31 : decode cX2_sumOfSoonest 31 = .ok (.goto 4, 3) := by decide +kernel
theorem dX2_sumOfSoonest_34 : decode cX2_sumOfSoonest 34 = .ok (.iload_n 3, 1) := by decide +kernel
theorem dX2_sumOfSoonest_35 : decode cX2_sumOfSoonest 35 = .ok (.iadd, 1) := by decide +kernel
theorem dX2_sumOfSoonest_36 : decode cX2_sumOfSoonest 36 = .ok (.istore_n 1, 1) := by decide +kernel
theorem dX2_sumOfSoonest_37 : decode cX2_sumOfSoonest 37 = .ok (.iinc 2 1, 3) := by decide +kernel
theorem dX2_sumOfSoonest_40 : decode cX2_sumOfSoonest 40 = .ok (.goto (-36), 3) := by decide +kernel
theorem dX2_sumOfSoonest_43 : decode cX2_sumOfSoonest 43 = .ok (.iload_n 1, 1) := by decide +kernel
theorem dX2_sumOfSoonest_44 : decode cX2_sumOfSoonest 44 = .ok (.ireturn, 1) := by decide +kernel
theorem dX2_bestChange_0 : decode cX2_bestChange 0 = .ok (.aload_n 0, 1) := by decide +kernel
theorem dX2_bestChange_1 : decode cX2_bestChange 1 = .ok (.invokevirtual 130, 3) := by decide +kernel
theorem dX2_bestChange_4 : decode cX2_bestChange 4 = .ok (.istore_n 1, 1) := by decide +kernel
theorem dX2_bestChange_5 : decode cX2_bestChange 5 = .ok (.bipush (-9), 2) := by decide +kernel
theorem dX2_bestChange_7 : decode cX2_bestChange 7 = .ok (.istore_n 2, 1) := by decide +kernel
theorem dX2_bestChange_8 : decode cX2_bestChange 8 = .ok (.iconst 0, 1) := by decide +kernel
theorem dX2_bestChange_9 : decode cX2_bestChange 9 = .ok (.istore_n 3, 1) := by decide +kernel
theorem dX2_bestChange_10 : decode cX2_bestChange 10 = .ok (.iload_n 3, 1) := by decide +kernel
theorem dX2_bestChange_11 : decode cX2_bestChange 11 = .ok (.aload_n 0, 1) := by decide +kernel
theorem dX2_bestChange_12 : decode cX2_bestChange 12 = .ok (.getfield 24, 3) := by decide +kernel
theorem dX2_bestChange_15 : decode cX2_bestChange 15 = .ok (.getfield 41, 3) := by decide +kernel
theorem dX2_bestChange_18 : decode cX2_bestChange 18 = .ok (.if_icmp .ge 83, 3) := by decide +kernel
theorem dX2_bestChange_21 : decode cX2_bestChange 21 = .ok (.iload_n 3, 1) := by decide +kernel
theorem dX2_bestChange_22 : decode cX2_bestChange 22 = .ok (.iconst 1, 1) := by decide +kernel
theorem dX2_bestChange_23 : decode cX2_bestChange 23 = .ok (.iadd, 1) := by decide +kernel
theorem dX2_bestChange_24 : decode cX2_bestChange 24 = .ok (.istore 4, 2) := by decide +kernel
theorem dX2_bestChange_26 : decode cX2_bestChange 26 = .ok (.iload 4, 2) := by decide +kernel
theorem dX2_bestChange_28 : decode cX2_bestChange 28 = .ok (.aload_n 0, 1) := by decide +kernel
theorem dX2_bestChange_29 : decode cX2_bestChange 29 = .ok (.getfield 24, 3) := by decide +kernel
theorem dX2_bestChange_32 : decode cX2_bestChange 32 = .ok (.getfield 41, 3) := by decide +kernel
theorem dX2_bestChange_35 : decode cX2_bestChange 35 = .ok (.if_icmp .ge 60, 3) := by decide +kernel
theorem dX2_bestChange_38 : decode cX2_bestChange 38 = .ok (.aload_n 0, 1) := by decide +kernel
theorem dX2_bestChange_39 : decode cX2_bestChange 39 = .ok (.iload_n 3, 1) := by decide +kernel
theorem dX2_bestChange_40 : decode cX2_bestChange 40 = .ok (.iload 4, 2) := by decide +kernel
theorem dX2_bestChange_42 : decode cX2_bestChange 42 = .ok (.invokevirtual 44, 3) := by decide +kernel
theorem dX2_bestChange_45 : decode cX2_bestChange 45 = .ok (.aload_n 0, 1) := by decide +kernel
theorem dX2_bestChange_46 : decode cX2_bestChange 46 = .ok (.iload 4, 2) := by decide +kernel
theorem dX2_bestChange_48 : decode cX2_bestChange 48 = .ok (.iload_n 3, 1) := by decide +kernel
theorem dX2_bestChange_49 : decode cX2_bestChange 49 = .ok (.invokevirtual 44, 3) := by decide +kernel
theorem dX2_bestChange_52 : decode cX2_bestChange 52 = .ok (.aload_n 0, 1) := by decide +kernel
theorem dX2_bestChange_53 : decode cX2_bestChange 53 = .ok (.invokevirtual 130, 3) := by decide +kernel
theorem dX2_bestChange_56 : decode cX2_bestChange 56 = .ok (.istore 5, 2) := by decide +kernel
theorem dX2_bestChange_58 : decode cX2_bestChange 58 = .ok (.aload_n 0, 1) := by decide +kernel
theorem dX2_bestChange_59 : decode cX2_bestChange 59 = .ok (.iload_n 3, 1) := by decide +kernel
theorem dX2_bestChange_60 : decode cX2_bestChange 60 = .ok (.iload_n 3, 1) := by decide +kernel
theorem dX2_bestChange_61 : decode cX2_bestChange 61 = .ok (.invokevirtual 44, 3) := by decide +kernel
theorem dX2_bestChange_64 : decode cX2_bestChange 64 = .ok (.aload_n 0, 1) := by decide +kernel
theorem dX2_bestChange_65 : decode cX2_bestChange 65 = .ok (.iload 4, 2) := by decide +kernel
theorem dX2_bestChange_67 : decode cX2_bestChange 67 = .ok (.iload 4, 2) := by decide +kernel
theorem dX2_bestChange_69 : decode cX2_bestChange 69 = .ok (.invokevirtual 44, 3) := by decide +kernel
theorem dX2_bestChange_72 : decode cX2_bestChange 72 = .ok (.iload 5, 2) := by decide +kernel
theorem dX2_bestChange_74 : decode cX2_bestChange 74 = .ok (.iload_n 1, 1) := by decide +kernel
theorem dX2_bestChange_75 : decode cX2_bestChange 75 = .ok (.if_icmp .ge 14, 3) := by decide +kernel
theorem dX2_bestChange_78 : decode cX2_bestChange 78 = .ok (.iload 5, 2) := by decide +kernel
theorem dX2_bestChange_80 : decode cX2_bestChange 80 = .ok (.istore_n 1, 1) := by decide +kernel
theorem dX2_bestChange_81 : decode cX2_bestChange 81 = .ok (.bipush 10, 2) := by decide +kernel
theorem dX2_bestChange_83 : decode cX2_bestChange 83 = .ok (.iload_n 3, 1) := by decide +kernel
theorem dX2_bestChange_84 : decode cX2_bestChange 84 = .ok (.imul, 1) := by decide +kernel
theorem dX2_bestChange_85 : decode cX2_bestChange 85 = .ok (.iload 4, 2) := by decide +kernel
theorem dX2_bestChange_87 : decode cX2_bestChange 87 = .ok (.iadd, 1) := by decide +kernel
theorem dX2_bestChange_88 : decode cX2_bestChange 88 = .ok (.istore_n 2, 1) := by decide +kernel
theorem dX2_bestChange_89 : decode cX2_bestChange 89 = .ok (.iinc 4 1, 3) := by decide +kernel
theorem dX2_bestChange_92 : decode cX2_bestChange 92 = .ok (.goto (-66), 3) := by decide +kernel
theorem dX2_bestChange_95 : decode cX2_bestChange 95 = .ok (.iinc 3 1, 3) := by decide +kernel
theorem dX2_bestChange_98 : decode cX2_bestChange 98 = .ok (.goto (-88), 3) := by decide +kernel
theorem dX2_bestChange_101 : decode cX2_bestChange 101 = .ok (.iload_n 2, 1) := by decide +kernel
theorem dX2_bestChange_102 : decode cX2_bestChange 102 = .ok (.ireturn, 1) := by decide +kernel
theorem dX2_inTimeOnDays_0 : decode cX2_inTimeOnDays 0 = .ok (.aload_n 0, 1) := by decide +kernel
theorem dX2_inTimeOnDays_1 : decode cX2_inTimeOnDays 1 = .ok (.iload_n 2, 1) := by decide +kernel
theorem dX2_inTimeOnDays_2 : decode cX2_inTimeOnDays 2 = .ok (.putfield 134, 3) := by decide +kernel
theorem dX2_inTimeOnDays_5 : decode cX2_inTimeOnDays 5 = .ok (.iconst 0, 1) := by decide +kernel
theorem dX2_inTimeOnDays_6 : decode cX2_inTimeOnDays 6 = .ok (.istore_n 3, 1) := by decide +kernel
theorem dX2_inTimeOnDays_7 : decode cX2_inTimeOnDays 7 = .ok (.iconst 0, 1) := by decide +kernel
theorem dX2_inTimeOnDays_8 : decode cX2_inTimeOnDays 8 = .ok (.istore 4, 2) := by decide +kernel
theorem dX2_inTimeOnDays_10 : decode cX2_inTimeOnDays 10 = .ok (.iload 4, 2) := by decide +kernel
theorem dX2_inTimeOnDays_12 : decode cX2_inTimeOnDays 12 = .ok (.iload_n 1, 1) := by decide +kernel
theorem dX2_inTimeOnDays_13 : decode cX2_inTimeOnDays 13 = .ok (.if_icmp .ge 112, 3) := by decide +kernel
theorem dX2_inTimeOnDays_16 : decode cX2_inTimeOnDays 16 = .ok (.iconst 0, 1) := by decide +kernel
theorem dX2_inTimeOnDays_17 : decode cX2_inTimeOnDays 17 = .ok (.istore 5, 2) := by decide +kernel
theorem dX2_inTimeOnDays_19 : decode cX2_inTimeOnDays 19 = .ok (.iload 5, 2) := by decide +kernel
theorem dX2_inTimeOnDays_21 : decode cX2_inTimeOnDays 21 = .ok (.aload_n 0, 1) := by decide +kernel
theorem dX2_inTimeOnDays_22 : decode cX2_inTimeOnDays 22 = .ok (.getfield 24, 3) := by decide +kernel
theorem dX2_inTimeOnDays_25 : decode cX2_inTimeOnDays 25 = .ok (.getfield 41, 3) := by decide +kernel
theorem dX2_inTimeOnDays_28 : decode cX2_inTimeOnDays 28 = .ok (.if_icmp .ge 53, 3) := by decide +kernel
theorem dX2_inTimeOnDays_31 : decode cX2_inTimeOnDays 31 = .ok (.aload_n 0, 1) := by decide +kernel
theorem dX2_inTimeOnDays_32 : decode cX2_inTimeOnDays 32 = .ok (.getfield 11, 3) := by decide +kernel
theorem dX2_inTimeOnDays_35 : decode cX2_inTimeOnDays 35 = .ok (.iload 5, 2) := by decide +kernel
theorem dX2_inTimeOnDays_37 : decode cX2_inTimeOnDays 37 = .ok (.aaload, 1) := by decide +kernel
theorem dX2_inTimeOnDays_38 : decode cX2_inTimeOnDays 38 = .ok (.aload_n 0, 1) := by decide +kernel
theorem dX2_inTimeOnDays_39 : decode cX2_inTimeOnDays 39 = .ok (.getfield 24, 3) := by decide +kernel
theorem dX2_inTimeOnDays_42 : decode cX2_inTimeOnDays 42 = .ok (.aload_n 0, 1) := by decide +kernel
theorem dX2_inTimeOnDays_43 : decode cX2_inTimeOnDays 43 = .ok (.getfield 24, 3) := by decide +kernel
theorem dX2_inTimeOnDays_46 : decode cX2_inTimeOnDays 46 = .ok (.getfield 48, 3) := by decide +kernel
theorem dX2_inTimeOnDays_49 : decode cX2_inTimeOnDays 49 = .ok (.iload 5, 2) := by decide +kernel
theorem dX2_inTimeOnDays_51 : decode cX2_inTimeOnDays 51 = .ok (.aaload, 1) := by decide +kernel
theorem dX2_inTimeOnDays_52 : decode cX2_inTimeOnDays 52 = .ok (.getfield 52, 3) := by decide +kernel
theorem dX2_inTimeOnDays_55 : decode cX2_inTimeOnDays 55 = .ok (.aload_n 0, 1) := by decide +kernel
theorem dX2_inTimeOnDays_56 : decode cX2_inTimeOnDays 56 = .ok (.getfield 24, 3) := by decide +kernel
theorem dX2_inTimeOnDays_59 : decode cX2_inTimeOnDays 59 = .ok (.getfield 48, 3) := by decide +kernel
theorem dX2_inTimeOnDays_62 : decode cX2_inTimeOnDays 62 = .ok (.iload 5, 2) := by decide +kernel
theorem dX2_inTimeOnDays_64 : decode cX2_inTimeOnDays 64 = .ok (.aaload, 1) := by decide +kernel
theorem dX2_inTimeOnDays_65 : decode cX2_inTimeOnDays 65 = .ok (.getfield 57, 3) := by decide +kernel
theorem dX2_inTimeOnDays_68 : decode cX2_inTimeOnDays 68 = .ok (.aload_n 0, 1) := by decide +kernel
theorem dX2_inTimeOnDays_69 : decode cX2_inTimeOnDays 69 = .ok (.invokevirtual 137, 3) := by decide +kernel
theorem dX2_inTimeOnDays_72 : decode cX2_inTimeOnDays 72 = .ok (.invokevirtual 63, 3) := by decide +kernel
theorem dX2_inTimeOnDays_75 : decode cX2_inTimeOnDays 75 = .ok (.iinc 5 1, 3) := by decide +kernel
theorem dX2_inTimeOnDays_78 : decode cX2_inTimeOnDays 78 = .ok (.goto (-59), 3) := by decide +kernel
theorem dX2_inTimeOnDays_81 : decode cX2_inTimeOnDays 81 = .ok (.iconst 0, 1) := by decide +kernel
theorem dX2_inTimeOnDays_82 : decode cX2_inTimeOnDays 82 = .ok (.istore 5, 2) := by decide +kernel
theorem dX2_inTimeOnDays_84 : decode cX2_inTimeOnDays 84 = .ok (.iload 5, 2) := by decide +kernel
theorem dX2_inTimeOnDays_86 : decode cX2_inTimeOnDays 86 = .ok (.aload_n 0, 1) := by decide +kernel
theorem dX2_inTimeOnDays_87 : decode cX2_inTimeOnDays 87 = .ok (.getfield 24, 3) := by decide +kernel
theorem dX2_inTimeOnDays_90 : decode cX2_inTimeOnDays 90 = .ok (.getfield 127, 3) := by decide +kernel
theorem dX2_inTimeOnDays_93 : decode cX2_inTimeOnDays 93 = .ok (.if_icmp .ge 26, 3) := by decide +kernel
theorem dX2_inTimeOnDays_96 : decode cX2_inTimeOnDays 96 = .ok (.iload_n 3, 1) := by decide +kernel
theorem dX2_inTimeOnDays_97 : decode cX2_inTimeOnDays 97 = .ok (.aload_n 0, 1) := by decide +kernel
theorem dX2_inTimeOnDays_98 : decode cX2_inTimeOnDays 98 = .ok (.iload 5, 2) := by decide +kernel
theorem dX2_inTimeOnDays_100 : decode cX2_inTimeOnDays 100 = .ok (.invokevirtual 140, 3) := by decide +kernel
theorem dX2_inTimeOnDays_103 : decode cX2_inTimeOnDays 103 = .ok (.ifCond .eq 7, 3) := by decide +kernel
theorem dX2_inTimeOnDays_106 : decode cX2_inTimeOnDays 106 = .ok (.iconst 1, 1) := by decide +kernel
theorem dX2_inTimeOnDays_107 : decode cX2_inTimeOnDays 107 = .ok (.goto 4, 3) := by decide +kernel
theorem dX2_inTimeOnDays_110 : decode cX2_inTimeOnDays 110 = .ok (.iconst 0, 1) := by decide +kernel
theorem dX2_inTimeOnDays_111 : decode cX2_inTimeOnDays 111 = .ok (.iadd, 1) := by decide +kernel
theorem dX2_inTimeOnDays_112 : decode cX2_inTimeOnDays 112 = .ok (.istore_n 3, 1) := by decide +kernel
theorem dX2_inTimeOnDays_113 : decode cX2_inTimeOnDays 113 = .ok (.iinc 5 1, 3) := by decide +kernel
theorem dX2_inTimeOnDays_116 : decode cX2_inTimeOnDays 116 = .ok (.goto (-32), 3) := by decide +kernel
theorem dX2_inTimeOnDays_119 : decode cX2_inTimeOnDays 119 = .ok (.iinc 4 1, 3) := by decide +kernel
theorem dX2_inTimeOnDays_122 : decode cX2_inTimeOnDays 122 = .ok (.goto (-112), 3) := by decide +kernel
theorem dX2_inTimeOnDays_125 : decode cX2_inTimeOnDays 125 = .ok (.iload_n 3, 1) := by decide +kernel
theorem dX2_inTimeOnDays_126 : decode cX2_inTimeOnDays 126 = .ok (.ireturn, 1) := by decide +kernel
theorem dX2_drawFrom_0 : decode cX2_drawFrom 0 = .ok (.aload_n 0, 1) := by decide +kernel
theorem dX2_drawFrom_1 : decode cX2_drawFrom 1 = .ok (.aload_n 0, 1) := by decide +kernel
theorem dX2_drawFrom_2 : decode cX2_drawFrom 2 = .ok (.getfield 134, 3) := by decide +kernel
theorem dX2_drawFrom_5 : decode cX2_drawFrom 5 = .ok (.ldc 144, 2) := by decide +kernel
theorem dX2_drawFrom_7 : decode cX2_drawFrom 7 = .ok (.imul, 1) := by decide +kernel
theorem dX2_drawFrom_8 : decode cX2_drawFrom 8 = .ok (.ldc 145, 2) := by decide +kernel
theorem dX2_drawFrom_10 : decode cX2_drawFrom 10 = .ok (.iadd, 1) := by decide +kernel
theorem dX2_drawFrom_11 : decode cX2_drawFrom 11 = .ok (.putfield 134, 3) := by decide +kernel
theorem dX2_drawFrom_14 : decode cX2_drawFrom 14 = .ok (.aload_n 0, 1) := by decide +kernel
theorem dX2_drawFrom_15 : decode cX2_drawFrom 15 = .ok (.getfield 134, 3) := by decide +kernel
theorem dX2_drawFrom_18 : decode cX2_drawFrom 18 = .ok (.ldc 146, 2) := by decide +kernel
theorem dX2_drawFrom_20 : decode cX2_drawFrom 20 = .ok (.iand, 1) := by decide +kernel
theorem dX2_drawFrom_21 : decode cX2_drawFrom 21 = .ok (.sipush 256, 3) := by decide +kernel
theorem dX2_drawFrom_24 : decode cX2_drawFrom 24 = .ok (.idiv, 1) := by decide +kernel
theorem dX2_drawFrom_25 : decode cX2_drawFrom 25 = .ok (.sipush 721, 3) := by decide +kernel
theorem dX2_drawFrom_28 : decode cX2_drawFrom 28 = .ok (.irem, 1) := by decide +kernel
theorem dX2_drawFrom_29 : decode cX2_drawFrom 29 = .ok (.ireturn, 1) := by decide +kernel
theorem dX3_init_0 : decode cX3_init 0 = .ok (.aload_n 0, 1) := by decide +kernel
theorem dX3_init_1 : decode cX3_init 1 = .ok (.invokespecial 1, 3) := by decide +kernel
theorem dX3_init_4 : decode cX3_init 4 = .ok (.return_, 1) := by decide +kernel
theorem dX3_becomeLike_0 : decode cX3_becomeLike 0 = .ok (.aload_n 0, 1) := by decide +kernel
theorem dX3_becomeLike_1 : decode cX3_becomeLike 1 = .ok (.aload_n 1, 1) := by decide +kernel
theorem dX3_becomeLike_2 : decode cX3_becomeLike 2 = .ok (.getfield 7, 3) := by decide +kernel
theorem dX3_becomeLike_5 : decode cX3_becomeLike 5 = .ok (.putfield 7, 3) := by decide +kernel
theorem dX3_becomeLike_8 : decode cX3_becomeLike 8 = .ok (.aload_n 0, 1) := by decide +kernel
theorem dX3_becomeLike_9 : decode cX3_becomeLike 9 = .ok (.aload_n 1, 1) := by decide +kernel
theorem dX3_becomeLike_10 : decode cX3_becomeLike 10 = .ok (.getfield 13, 3) := by decide +kernel
theorem dX3_becomeLike_13 : decode cX3_becomeLike 13 = .ok (.putfield 13, 3) := by decide +kernel
theorem dX3_becomeLike_16 : decode cX3_becomeLike 16 = .ok (.aload_n 0, 1) := by decide +kernel
theorem dX3_becomeLike_17 : decode cX3_becomeLike 17 = .ok (.aload_n 1, 1) := by decide +kernel
theorem dX3_becomeLike_18 : decode cX3_becomeLike 18 = .ok (.getfield 16, 3) := by decide +kernel
theorem dX3_becomeLike_21 : decode cX3_becomeLike 21 = .ok (.putfield 16, 3) := by decide +kernel
theorem dX3_becomeLike_24 : decode cX3_becomeLike 24 = .ok (.aload_n 0, 1) := by decide +kernel
theorem dX3_becomeLike_25 : decode cX3_becomeLike 25 = .ok (.aload_n 1, 1) := by decide +kernel
theorem dX3_becomeLike_26 : decode cX3_becomeLike 26 = .ok (.getfield 19, 3) := by decide +kernel
theorem dX3_becomeLike_29 : decode cX3_becomeLike 29 = .ok (.putfield 19, 3) := by decide +kernel
theorem dX3_becomeLike_32 : decode cX3_becomeLike 32 = .ok (.aload_n 0, 1) := by decide +kernel
theorem dX3_becomeLike_33 : decode cX3_becomeLike 33 = .ok (.aload_n 1, 1) := by decide +kernel
theorem dX3_becomeLike_34 : decode cX3_becomeLike 34 = .ok (.getfield 22, 3) := by decide +kernel
theorem dX3_becomeLike_37 : decode cX3_becomeLike 37 = .ok (.putfield 22, 3) := by decide +kernel
theorem dX3_becomeLike_40 : decode cX3_becomeLike 40 = .ok (.aload_n 0, 1) := by decide +kernel
theorem dX3_becomeLike_41 : decode cX3_becomeLike 41 = .ok (.aload_n 1, 1) := by decide +kernel
theorem dX3_becomeLike_42 : decode cX3_becomeLike 42 = .ok (.getfield 25, 3) := by decide +kernel
theorem dX3_becomeLike_45 : decode cX3_becomeLike 45 = .ok (.putfield 25, 3) := by decide +kernel
theorem dX3_becomeLike_48 : decode cX3_becomeLike 48 = .ok (.aload_n 0, 1) := by decide +kernel
theorem dX3_becomeLike_49 : decode cX3_becomeLike 49 = .ok (.aload_n 1, 1) := by decide +kernel
theorem dX3_becomeLike_50 : decode cX3_becomeLike 50 = .ok (.getfield 28, 3) := by decide +kernel
theorem dX3_becomeLike_53 : decode cX3_becomeLike 53 = .ok (.putfield 28, 3) := by decide +kernel
theorem dX3_becomeLike_56 : decode cX3_becomeLike 56 = .ok (.return_, 1) := by decide +kernel
theorem dX3_tellOf_0 : decode cX3_tellOf 0 = .ok (.iload_n 1, 1) := by decide +kernel
theorem dX3_tellOf_1 : decode cX3_tellOf 1 = .ok (.tableswitch 69 0 5 #[39, 44, 49, 54, 59, 64], 39) := by decide +kernel
theorem dX3_tellOf_40 : decode cX3_tellOf 40 = .ok (.aload_n 0, 1) := by decide +kernel
theorem dX3_tellOf_41 : decode cX3_tellOf 41 = .ok (.getfield 7, 3) := by decide +kernel
theorem dX3_tellOf_44 : decode cX3_tellOf 44 = .ok (.ireturn, 1) := by decide +kernel
theorem dX3_tellOf_45 : decode cX3_tellOf 45 = .ok (.aload_n 0, 1) := by decide +kernel
theorem dX3_tellOf_46 : decode cX3_tellOf 46 = .ok (.getfield 13, 3) := by decide +kernel
theorem dX3_tellOf_49 : decode cX3_tellOf 49 = .ok (.ireturn, 1) := by decide +kernel
theorem dX3_tellOf_50 : decode cX3_tellOf 50 = .ok (.aload_n 0, 1) := by decide +kernel
theorem dX3_tellOf_51 : decode cX3_tellOf 51 = .ok (.getfield 16, 3) := by decide +kernel
theorem dX3_tellOf_54 : decode cX3_tellOf 54 = .ok (.ireturn, 1) := by decide +kernel
theorem dX3_tellOf_55 : decode cX3_tellOf 55 = .ok (.aload_n 0, 1) := by decide +kernel
theorem dX3_tellOf_56 : decode cX3_tellOf 56 = .ok (.getfield 19, 3) := by decide +kernel
theorem dX3_tellOf_59 : decode cX3_tellOf 59 = .ok (.ireturn, 1) := by decide +kernel
theorem dX3_tellOf_60 : decode cX3_tellOf 60 = .ok (.aload_n 0, 1) := by decide +kernel
theorem dX3_tellOf_61 : decode cX3_tellOf 61 = .ok (.getfield 22, 3) := by decide +kernel
theorem dX3_tellOf_64 : decode cX3_tellOf 64 = .ok (.ireturn, 1) := by decide +kernel
theorem dX3_tellOf_65 : decode cX3_tellOf 65 = .ok (.aload_n 0, 1) := by decide +kernel
theorem dX3_tellOf_66 : decode cX3_tellOf 66 = .ok (.getfield 25, 3) := by decide +kernel
theorem dX3_tellOf_69 : decode cX3_tellOf 69 = .ok (.ireturn, 1) := by decide +kernel
theorem dX3_tellOf_70 : decode cX3_tellOf 70 = .ok (.aload_n 0, 1) := by decide +kernel
theorem dX3_tellOf_71 : decode cX3_tellOf 71 = .ok (.getfield 28, 3) := by decide +kernel
theorem dX3_tellOf_74 : decode cX3_tellOf 74 = .ok (.ireturn, 1) := by decide +kernel
theorem dX4_init_0 : decode cX4_init 0 = .ok (.aload_n 0, 1) := by decide +kernel
theorem dX4_init_1 : decode cX4_init 1 = .ok (.invokespecial 1, 3) := by decide +kernel
theorem dX4_init_4 : decode cX4_init 4 = .ok (.return_, 1) := by decide +kernel
theorem dX4_becomeLike_0 : decode cX4_becomeLike 0 = .ok (.aload_n 0, 1) := by decide +kernel
theorem dX4_becomeLike_1 : decode cX4_becomeLike 1 = .ok (.aload_n 1, 1) := by decide +kernel
theorem dX4_becomeLike_2 : decode cX4_becomeLike 2 = .ok (.getfield 7, 3) := by decide +kernel
theorem dX4_becomeLike_5 : decode cX4_becomeLike 5 = .ok (.putfield 7, 3) := by decide +kernel
theorem dX4_becomeLike_8 : decode cX4_becomeLike 8 = .ok (.aload_n 0, 1) := by decide +kernel
theorem dX4_becomeLike_9 : decode cX4_becomeLike 9 = .ok (.aload_n 1, 1) := by decide +kernel
theorem dX4_becomeLike_10 : decode cX4_becomeLike 10 = .ok (.getfield 13, 3) := by decide +kernel
theorem dX4_becomeLike_13 : decode cX4_becomeLike 13 = .ok (.putfield 13, 3) := by decide +kernel
theorem dX4_becomeLike_16 : decode cX4_becomeLike 16 = .ok (.aload_n 0, 1) := by decide +kernel
theorem dX4_becomeLike_17 : decode cX4_becomeLike 17 = .ok (.aload_n 1, 1) := by decide +kernel
theorem dX4_becomeLike_18 : decode cX4_becomeLike 18 = .ok (.getfield 16, 3) := by decide +kernel
theorem dX4_becomeLike_21 : decode cX4_becomeLike 21 = .ok (.putfield 16, 3) := by decide +kernel
theorem dX4_becomeLike_24 : decode cX4_becomeLike 24 = .ok (.aload_n 0, 1) := by decide +kernel
theorem dX4_becomeLike_25 : decode cX4_becomeLike 25 = .ok (.aload_n 1, 1) := by decide +kernel
theorem dX4_becomeLike_26 : decode cX4_becomeLike 26 = .ok (.getfield 19, 3) := by decide +kernel
theorem dX4_becomeLike_29 : decode cX4_becomeLike 29 = .ok (.putfield 19, 3) := by decide +kernel
theorem dX4_becomeLike_32 : decode cX4_becomeLike 32 = .ok (.aload_n 0, 1) := by decide +kernel
theorem dX4_becomeLike_33 : decode cX4_becomeLike 33 = .ok (.aload_n 1, 1) := by decide +kernel
theorem dX4_becomeLike_34 : decode cX4_becomeLike 34 = .ok (.getfield 22, 3) := by decide +kernel
theorem dX4_becomeLike_37 : decode cX4_becomeLike 37 = .ok (.putfield 22, 3) := by decide +kernel
theorem dX4_becomeLike_40 : decode cX4_becomeLike 40 = .ok (.aload_n 0, 1) := by decide +kernel
theorem dX4_becomeLike_41 : decode cX4_becomeLike 41 = .ok (.aload_n 1, 1) := by decide +kernel
theorem dX4_becomeLike_42 : decode cX4_becomeLike 42 = .ok (.getfield 25, 3) := by decide +kernel
theorem dX4_becomeLike_45 : decode cX4_becomeLike 45 = .ok (.putfield 25, 3) := by decide +kernel
theorem dX4_becomeLike_48 : decode cX4_becomeLike 48 = .ok (.aload_n 0, 1) := by decide +kernel
theorem dX4_becomeLike_49 : decode cX4_becomeLike 49 = .ok (.aload_n 1, 1) := by decide +kernel
theorem dX4_becomeLike_50 : decode cX4_becomeLike 50 = .ok (.getfield 28, 3) := by decide +kernel
theorem dX4_becomeLike_53 : decode cX4_becomeLike 53 = .ok (.putfield 28, 3) := by decide +kernel
theorem dX4_becomeLike_56 : decode cX4_becomeLike 56 = .ok (.aload_n 0, 1) := by decide +kernel
theorem dX4_becomeLike_57 : decode cX4_becomeLike 57 = .ok (.aload_n 1, 1) := by decide +kernel
theorem dX4_becomeLike_58 : decode cX4_becomeLike 58 = .ok (.getfield 31, 3) := by decide +kernel
theorem dX4_becomeLike_61 : decode cX4_becomeLike 61 = .ok (.putfield 31, 3) := by decide +kernel
theorem dX4_becomeLike_64 : decode cX4_becomeLike 64 = .ok (.aload_n 0, 1) := by decide +kernel
theorem dX4_becomeLike_65 : decode cX4_becomeLike 65 = .ok (.aload_n 1, 1) := by decide +kernel
theorem dX4_becomeLike_66 : decode cX4_becomeLike 66 = .ok (.getfield 34, 3) := by decide +kernel
theorem dX4_becomeLike_69 : decode cX4_becomeLike 69 = .ok (.putfield 34, 3) := by decide +kernel
theorem dX4_becomeLike_72 : decode cX4_becomeLike 72 = .ok (.aload_n 0, 1) := by decide +kernel
theorem dX4_becomeLike_73 : decode cX4_becomeLike 73 = .ok (.aload_n 1, 1) := by decide +kernel
theorem dX4_becomeLike_74 : decode cX4_becomeLike 74 = .ok (.getfield 37, 3) := by decide +kernel
theorem dX4_becomeLike_77 : decode cX4_becomeLike 77 = .ok (.putfield 37, 3) := by decide +kernel
theorem dX4_becomeLike_80 : decode cX4_becomeLike 80 = .ok (.return_, 1) := by decide +kernel
theorem dX4_isOf_0 : decode cX4_isOf 0 = .ok (.iload_n 1, 1) := by decide +kernel
theorem dX4_isOf_1 : decode cX4_isOf 1 = .ok (.aload_n 0, 1) := by decide +kernel
theorem dX4_isOf_2 : decode cX4_isOf 2 = .ok (.getfield 7, 3) := by decide +kernel
theorem dX4_isOf_5 : decode cX4_isOf 5 = .ok (.if_icmp .eq 11, 3) := by decide +kernel
theorem dX4_isOf_8 : decode cX4_isOf 8 = .ok (.iload_n 1, 1) := by decide +kernel
theorem dX4_isOf_9 : decode cX4_isOf 9 = .ok (.aload_n 0, 1) := by decide +kernel
theorem dX4_isOf_10 : decode cX4_isOf 10 = .ok (.getfield 13, 3) := by decide +kernel
theorem dX4_isOf_13 : decode cX4_isOf 13 = .ok (.if_icmp .ne 7, 3) := by decide +kernel
theorem dX4_isOf_16 : decode cX4_isOf 16 = .ok (.iconst 1, 1) := by decide +kernel
theorem dX4_isOf_17 : decode cX4_isOf 17 = .ok (.goto 4, 3) := by decide +kernel
theorem dX4_isOf_20 : decode cX4_isOf 20 = .ok (.iconst 0, 1) := by decide +kernel
theorem dX4_isOf_21 : decode cX4_isOf 21 = .ok (.ireturn, 1) := by decide +kernel
theorem dX4_tellOf_0 : decode cX4_tellOf 0 = .ok (.iload_n 1, 1) := by decide +kernel
theorem dX4_tellOf_1 : decode cX4_tellOf 1 = .ok (.tableswitch 96 0 8 #[51, 56, 61, 66, 71, 76, 81, 86, 91], 51) := by decide +kernel
theorem dX4_tellOf_52 : decode cX4_tellOf 52 = .ok (.aload_n 0, 1) := by decide +kernel
theorem dX4_tellOf_53 : decode cX4_tellOf 53 = .ok (.getfield 7, 3) := by decide +kernel
theorem dX4_tellOf_56 : decode cX4_tellOf 56 = .ok (.ireturn, 1) := by decide +kernel
theorem dX4_tellOf_57 : decode cX4_tellOf 57 = .ok (.aload_n 0, 1) := by decide +kernel
theorem dX4_tellOf_58 : decode cX4_tellOf 58 = .ok (.getfield 13, 3) := by decide +kernel
theorem dX4_tellOf_61 : decode cX4_tellOf 61 = .ok (.ireturn, 1) := by decide +kernel
theorem dX4_tellOf_62 : decode cX4_tellOf 62 = .ok (.aload_n 0, 1) := by decide +kernel
theorem dX4_tellOf_63 : decode cX4_tellOf 63 = .ok (.getfield 16, 3) := by decide +kernel
theorem dX4_tellOf_66 : decode cX4_tellOf 66 = .ok (.ireturn, 1) := by decide +kernel
theorem dX4_tellOf_67 : decode cX4_tellOf 67 = .ok (.aload_n 0, 1) := by decide +kernel
theorem dX4_tellOf_68 : decode cX4_tellOf 68 = .ok (.getfield 19, 3) := by decide +kernel
theorem dX4_tellOf_71 : decode cX4_tellOf 71 = .ok (.ireturn, 1) := by decide +kernel
theorem dX4_tellOf_72 : decode cX4_tellOf 72 = .ok (.aload_n 0, 1) := by decide +kernel
theorem dX4_tellOf_73 : decode cX4_tellOf 73 = .ok (.getfield 22, 3) := by decide +kernel
theorem dX4_tellOf_76 : decode cX4_tellOf 76 = .ok (.ireturn, 1) := by decide +kernel
theorem dX4_tellOf_77 : decode cX4_tellOf 77 = .ok (.aload_n 0, 1) := by decide +kernel
theorem dX4_tellOf_78 : decode cX4_tellOf 78 = .ok (.getfield 25, 3) := by decide +kernel
theorem dX4_tellOf_81 : decode cX4_tellOf 81 = .ok (.ireturn, 1) := by decide +kernel
theorem dX4_tellOf_82 : decode cX4_tellOf 82 = .ok (.aload_n 0, 1) := by decide +kernel
theorem dX4_tellOf_83 : decode cX4_tellOf 83 = .ok (.getfield 28, 3) := by decide +kernel
theorem dX4_tellOf_86 : decode cX4_tellOf 86 = .ok (.ireturn, 1) := by decide +kernel
theorem dX4_tellOf_87 : decode cX4_tellOf 87 = .ok (.aload_n 0, 1) := by decide +kernel
theorem dX4_tellOf_88 : decode cX4_tellOf 88 = .ok (.getfield 31, 3) := by decide +kernel
theorem dX4_tellOf_91 : decode cX4_tellOf 91 = .ok (.ireturn, 1) := by decide +kernel
theorem dX4_tellOf_92 : decode cX4_tellOf 92 = .ok (.aload_n 0, 1) := by decide +kernel
theorem dX4_tellOf_93 : decode cX4_tellOf 93 = .ok (.getfield 34, 3) := by decide +kernel
theorem dX4_tellOf_96 : decode cX4_tellOf 96 = .ok (.ireturn, 1) := by decide +kernel
theorem dX4_tellOf_97 : decode cX4_tellOf 97 = .ok (.aload_n 0, 1) := by decide +kernel
theorem dX4_tellOf_98 : decode cX4_tellOf 98 = .ok (.getfield 37, 3) := by decide +kernel
theorem dX4_tellOf_101 : decode cX4_tellOf 101 = .ok (.ireturn, 1) := by decide +kernel
theorem dX5_init_0 : decode cX5_init 0 = .ok (.aload_n 0, 1) := by decide +kernel
theorem dX5_init_1 : decode cX5_init 1 = .ok (.invokespecial 3, 3) := by decide +kernel
theorem dX5_init_4 : decode cX5_init 4 = .ok (.aload_n 0, 1) := by decide +kernel
theorem dX5_init_5 : decode cX5_init 5 = .ok (.bipush 6, 2) := by decide +kernel
theorem dX5_init_7 : decode cX5_init 7 = .ok (.anewarray 9, 3) := by decide +kernel
theorem dX5_init_10 : decode cX5_init 10 = .ok (.putfield 11, 3) := by decide +kernel
theorem dX5_init_13 : decode cX5_init 13 = .ok (.aload_n 0, 1) := by decide +kernel
theorem dX5_init_14 : decode cX5_init 14 = .ok (.bipush 6, 2) := by decide +kernel
theorem dX5_init_16 : decode cX5_init 16 = .ok (.anewarray 17, 3) := by decide +kernel
theorem dX5_init_19 : decode cX5_init 19 = .ok (.putfield 19, 3) := by decide +kernel
theorem dX5_init_22 : decode cX5_init 22 = .ok (.aload_n 0, 1) := by decide +kernel
theorem dX5_init_23 : decode cX5_init 23 = .ok (.bipush 49, 2) := by decide +kernel
theorem dX5_init_25 : decode cX5_init 25 = .ok (.newarray .int, 2) := by decide +kernel
theorem dX5_init_27 : decode cX5_init 27 = .ok (.putfield 23, 3) := by decide +kernel
theorem dX5_init_30 : decode cX5_init 30 = .ok (.aload_n 0, 1) := by decide +kernel
theorem dX5_init_31 : decode cX5_init 31 = .ok (.bipush 49, 2) := by decide +kernel
theorem dX5_init_33 : decode cX5_init 33 = .ok (.newarray .int, 2) := by decide +kernel
theorem dX5_init_35 : decode cX5_init 35 = .ok (.putfield 27, 3) := by decide +kernel
theorem dX5_init_38 : decode cX5_init 38 = .ok (.aload_n 0, 1) := by decide +kernel
theorem dX5_init_39 : decode cX5_init 39 = .ok (.iconst 4, 1) := by decide +kernel
theorem dX5_init_40 : decode cX5_init 40 = .ok (.putfield 30, 3) := by decide +kernel
theorem dX5_init_43 : decode cX5_init 43 = .ok (.iconst 0, 1) := by decide +kernel
theorem dX5_init_44 : decode cX5_init 44 = .ok (.istore_n 1, 1) := by decide +kernel
theorem dX5_init_45 : decode cX5_init 45 = .ok (.iload_n 1, 1) := by decide +kernel
theorem dX5_init_46 : decode cX5_init 46 = .ok (.bipush 6, 2) := by decide +kernel
theorem dX5_init_48 : decode cX5_init 48 = .ok (.if_icmp .ge 22, 3) := by decide +kernel
theorem dX5_init_51 : decode cX5_init 51 = .ok (.aload_n 0, 1) := by decide +kernel
theorem dX5_init_52 : decode cX5_init 52 = .ok (.getfield 11, 3) := by decide +kernel
theorem dX5_init_55 : decode cX5_init 55 = .ok (.iload_n 1, 1) := by decide +kernel
theorem dX5_init_56 : decode cX5_init 56 = .ok (.new 9, 3) := by decide +kernel
theorem dX5_init_59 : decode cX5_init 59 = .ok (.dup, 1) := by decide +kernel
theorem dX5_init_60 : decode cX5_init 60 = .ok (.invokespecial 34, 3) := by decide +kernel
theorem dX5_init_63 : decode cX5_init 63 = .ok (.aastore, 1) := by decide +kernel
theorem dX5_init_64 : decode cX5_init 64 = .ok (.iinc 1 1, 3) := by decide +kernel
theorem dX5_init_67 : decode cX5_init 67 = .ok (.goto (-22), 3) := by decide +kernel
theorem dX5_init_70 : decode cX5_init 70 = .ok (.iconst 0, 1) := by decide +kernel
theorem dX5_init_71 : decode cX5_init 71 = .ok (.istore_n 1, 1) := by decide +kernel
theorem dX5_init_72 : decode cX5_init 72 = .ok (.iload_n 1, 1) := by decide +kernel
theorem dX5_init_73 : decode cX5_init 73 = .ok (.bipush 6, 2) := by decide +kernel
theorem dX5_init_75 : decode cX5_init 75 = .ok (.if_icmp .ge 22, 3) := by decide +kernel
theorem dX5_init_78 : decode cX5_init 78 = .ok (.aload_n 0, 1) := by decide +kernel
theorem dX5_init_79 : decode cX5_init 79 = .ok (.getfield 19, 3) := by decide +kernel
theorem dX5_init_82 : decode cX5_init 82 = .ok (.iload_n 1, 1) := by decide +kernel
theorem dX5_init_83 : decode cX5_init 83 = .ok (.new 17, 3) := by decide +kernel
theorem dX5_init_86 : decode cX5_init 86 = .ok (.dup, 1) := by decide +kernel
theorem dX5_init_87 : decode cX5_init 87 = .ok (.invokespecial 35, 3) := by decide +kernel
theorem dX5_init_90 : decode cX5_init 90 = .ok (.aastore, 1) := by decide +kernel
theorem dX5_init_91 : decode cX5_init 91 = .ok (.iinc 1 1, 3) := by decide +kernel
theorem dX5_init_94 : decode cX5_init 94 = .ok (.goto (-22), 3) := by decide +kernel
theorem dX5_init_97 : decode cX5_init 97 = .ok (.aload_n 0, 1) := by decide +kernel
theorem dX5_init_98 : decode cX5_init 98 = .ok (.invokevirtual 36, 3) := by decide +kernel
theorem dX5_init_101 : decode cX5_init 101 = .ok (.return_, 1) := by decide +kernel
theorem dX5_becomeLike_0 : decode cX5_becomeLike 0 = .ok (.iconst 0, 1) := by decide +kernel
theorem dX5_becomeLike_1 : decode cX5_becomeLike 1 = .ok (.istore_n 2, 1) := by decide +kernel
theorem dX5_becomeLike_2 : decode cX5_becomeLike 2 = .ok (.iload_n 2, 1) := by decide +kernel
theorem dX5_becomeLike_3 : decode cX5_becomeLike 3 = .ok (.bipush 6, 2) := by decide +kernel
theorem dX5_becomeLike_5 : decode cX5_becomeLike 5 = .ok (.if_icmp .ge 24, 3) := by decide +kernel
theorem dX5_becomeLike_8 : decode cX5_becomeLike 8 = .ok (.aload_n 0, 1) := by decide +kernel
theorem dX5_becomeLike_9 : decode cX5_becomeLike 9 = .ok (.getfield 11, 3) := by decide +kernel
theorem dX5_becomeLike_12 : decode cX5_becomeLike 12 = .ok (.iload_n 2, 1) := by decide +kernel
theorem dX5_becomeLike_13 : decode cX5_becomeLike 13 = .ok (.aaload, 1) := by decide +kernel
theorem dX5_becomeLike_14 : decode cX5_becomeLike 14 = .ok (.aload_n 1, 1) := by decide +kernel
theorem dX5_becomeLike_15 : decode cX5_becomeLike 15 = .ok (.getfield 11, 3) := by decide +kernel
theorem dX5_becomeLike_18 : decode cX5_becomeLike 18 = .ok (.iload_n 2, 1) := by decide +kernel
theorem dX5_becomeLike_19 : decode cX5_becomeLike 19 = .ok (.aaload, 1) := by decide +kernel
theorem dX5_becomeLike_20 : decode cX5_becomeLike 20 = .ok (.invokevirtual 39, 3) := by decide +kernel
theorem dX5_becomeLike_23 : decode cX5_becomeLike 23 = .ok (.iinc 2 1, 3) := by decide +kernel
theorem dX5_becomeLike_26 : decode cX5_becomeLike 26 = .ok (.goto (-24), 3) := by decide +kernel
theorem dX5_becomeLike_29 : decode cX5_becomeLike 29 = .ok (.iconst 0, 1) := by decide +kernel
theorem dX5_becomeLike_30 : decode cX5_becomeLike 30 = .ok (.istore_n 2, 1) := by decide +kernel
theorem dX5_becomeLike_31 : decode cX5_becomeLike 31 = .ok (.iload_n 2, 1) := by decide +kernel
theorem dX5_becomeLike_32 : decode cX5_becomeLike 32 = .ok (.bipush 6, 2) := by decide +kernel
theorem dX5_becomeLike_34 : decode cX5_becomeLike 34 = .ok (.if_icmp .ge 24, 3) := by decide +kernel
theorem dX5_becomeLike_37 : decode cX5_becomeLike 37 = .ok (.aload_n 0, 1) := by decide +kernel
theorem dX5_becomeLike_38 : decode cX5_becomeLike 38 = .ok (.getfield 19, 3) := by decide +kernel
theorem dX5_becomeLike_41 : decode cX5_becomeLike 41 = .ok (.iload_n 2, 1) := by decide +kernel
theorem dX5_becomeLike_42 : decode cX5_becomeLike 42 = .ok (.aaload, 1) := by decide +kernel
theorem dX5_becomeLike_43 : decode cX5_becomeLike 43 = .ok (.aload_n 1, 1) := by decide +kernel
theorem dX5_becomeLike_44 : decode cX5_becomeLike 44 = .ok (.getfield 19, 3) := by decide +kernel
theorem dX5_becomeLike_47 : decode cX5_becomeLike 47 = .ok (.iload_n 2, 1) := by decide +kernel
theorem dX5_becomeLike_48 : decode cX5_becomeLike 48 = .ok (.aaload, 1) := by decide +kernel
theorem dX5_becomeLike_49 : decode cX5_becomeLike 49 = .ok (.invokevirtual 43, 3) := by decide +kernel
theorem dX5_becomeLike_52 : decode cX5_becomeLike 52 = .ok (.iinc 2 1, 3) := by decide +kernel
theorem dX5_becomeLike_55 : decode cX5_becomeLike 55 = .ok (.goto (-24), 3) := by decide +kernel
theorem dX5_becomeLike_58 : decode cX5_becomeLike 58 = .ok (.aload_n 1, 1) := by decide +kernel
theorem dX5_becomeLike_59 : decode cX5_becomeLike 59 = .ok (.getfield 23, 3) := by decide +kernel
theorem dX5_becomeLike_62 : decode cX5_becomeLike 62 = .ok (.iconst 0, 1) := by decide +kernel
theorem dX5_becomeLike_63 : decode cX5_becomeLike 63 = .ok (.aload_n 0, 1) := by decide +kernel
theorem dX5_becomeLike_64 : decode cX5_becomeLike 64 = .ok (.getfield 23, 3) := by decide +kernel
theorem dX5_becomeLike_67 : decode cX5_becomeLike 67 = .ok (.iconst 0, 1) := by decide +kernel
theorem dX5_becomeLike_68 : decode cX5_becomeLike 68 = .ok (.aload_n 0, 1) := by decide +kernel
theorem dX5_becomeLike_69 : decode cX5_becomeLike 69 = .ok (.getfield 23, 3) := by decide +kernel
theorem dX5_becomeLike_72 : decode cX5_becomeLike 72 = .ok (.arraylength, 1) := by decide +kernel
theorem dX5_becomeLike_73 : decode cX5_becomeLike 73 = .ok (.invokestatic 46, 3) := by decide +kernel
theorem dX5_becomeLike_76 : decode cX5_becomeLike 76 = .ok (.aload_n 1, 1) := by decide +kernel
theorem dX5_becomeLike_77 : decode cX5_becomeLike 77 = .ok (.getfield 27, 3) := by decide +kernel
theorem dX5_becomeLike_80 : decode cX5_becomeLike 80 = .ok (.iconst 0, 1) := by decide +kernel
theorem dX5_becomeLike_81 : decode cX5_becomeLike 81 = .ok (.aload_n 0, 1) := by decide +kernel
theorem dX5_becomeLike_82 : decode cX5_becomeLike 82 = .ok (.getfield 27, 3) := by decide +kernel
theorem dX5_becomeLike_85 : decode cX5_becomeLike 85 = .ok (.iconst 0, 1) := by decide +kernel
theorem dX5_becomeLike_86 : decode cX5_becomeLike 86 = .ok (.aload_n 0, 1) := by decide +kernel
theorem dX5_becomeLike_87 : decode cX5_becomeLike 87 = .ok (.getfield 27, 3) := by decide +kernel
theorem dX5_becomeLike_90 : decode cX5_becomeLike 90 = .ok (.arraylength, 1) := by decide +kernel
theorem dX5_becomeLike_91 : decode cX5_becomeLike 91 = .ok (.invokestatic 46, 3) := by decide +kernel
theorem dX5_becomeLike_94 : decode cX5_becomeLike 94 = .ok (.aload_n 0, 1) := by decide +kernel
theorem dX5_becomeLike_95 : decode cX5_becomeLike 95 = .ok (.aload_n 1, 1) := by decide +kernel
theorem dX5_becomeLike_96 : decode cX5_becomeLike 96 = .ok (.getfield 30, 3) := by decide +kernel
theorem dX5_becomeLike_99 : decode cX5_becomeLike 99 = .ok (.putfield 30, 3) := by decide +kernel
theorem dX5_becomeLike_102 : decode cX5_becomeLike 102 = .ok (.aload_n 0, 1) := by decide +kernel
theorem dX5_becomeLike_103 : decode cX5_becomeLike 103 = .ok (.aload_n 1, 1) := by decide +kernel
theorem dX5_becomeLike_104 : decode cX5_becomeLike 104 = .ok (.getfield 52, 3) := by decide +kernel
theorem dX5_becomeLike_107 : decode cX5_becomeLike 107 = .ok (.putfield 52, 3) := by decide +kernel
theorem dX5_becomeLike_110 : decode cX5_becomeLike 110 = .ok (.aload_n 0, 1) := by decide +kernel
theorem dX5_becomeLike_111 : decode cX5_becomeLike 111 = .ok (.aload_n 1, 1) := by decide +kernel
theorem dX5_becomeLike_112 : decode cX5_becomeLike 112 = .ok (.getfield 55, 3) := by decide +kernel
theorem dX5_becomeLike_115 : decode cX5_becomeLike 115 = .ok (.putfield 55, 3) := by decide +kernel
theorem dX5_becomeLike_118 : decode cX5_becomeLike 118 = .ok (.aload_n 0, 1) := by decide +kernel
theorem dX5_becomeLike_119 : decode cX5_becomeLike 119 = .ok (.aload_n 1, 1) := by decide +kernel
theorem dX5_becomeLike_120 : decode cX5_becomeLike 120 = .ok (.getfield 58, 3) := by decide +kernel
theorem dX5_becomeLike_123 : decode cX5_becomeLike 123 = .ok (.putfield 58, 3) := by decide +kernel
theorem dX5_becomeLike_126 : decode cX5_becomeLike 126 = .ok (.return_, 1) := by decide +kernel
theorem dX5_isPlace_0 : decode cX5_isPlace 0 = .ok (.iload_n 1, 1) := by decide +kernel
theorem dX5_isPlace_1 : decode cX5_isPlace 1 = .ok (.ifCond .lt 15, 3) := by decide +kernel
theorem dX5_isPlace_4 : decode cX5_isPlace 4 = .ok (.iload_n 1, 1) := by decide +kernel
theorem dX5_isPlace_5 : decode cX5_isPlace 5 = .ok (.aload_n 0, 1) := by decide +kernel
theorem dX5_isPlace_6 : decode cX5_isPlace 6 = .ok (.getfield 30, 3) := by decide +kernel
theorem dX5_isPlace_9 : decode cX5_isPlace 9 = .ok (.if_icmp .ge 7, 3) := by decide +kernel
theorem dX5_isPlace_12 : decode cX5_isPlace 12 = .ok (.iconst 1, 1) := by decide +kernel
theorem dX5_isPlace_13 : decode cX5_isPlace 13 = .ok (.goto 4, 3) := by decide +kernel
theorem dX5_isPlace_16 : decode cX5_isPlace 16 = .ok (.iconst 0, 1) := by decide +kernel
theorem dX5_isPlace_17 : decode cX5_isPlace 17 = .ok (.ireturn, 1) := by decide +kernel
theorem dX5_isPerson_0 : decode cX5_isPerson 0 = .ok (.iload_n 1, 1) := by decide +kernel
theorem dX5_isPerson_1 : decode cX5_isPerson 1 = .ok (.ifCond .lt 15, 3) := by decide +kernel
theorem dX5_isPerson_4 : decode cX5_isPerson 4 = .ok (.iload_n 1, 1) := by decide +kernel
theorem dX5_isPerson_5 : decode cX5_isPerson 5 = .ok (.aload_n 0, 1) := by decide +kernel
theorem dX5_isPerson_6 : decode cX5_isPerson 6 = .ok (.getfield 52, 3) := by decide +kernel
theorem dX5_isPerson_9 : decode cX5_isPerson 9 = .ok (.if_icmp .ge 7, 3) := by decide +kernel
theorem dX5_isPerson_12 : decode cX5_isPerson 12 = .ok (.iconst 1, 1) := by decide +kernel
theorem dX5_isPerson_13 : decode cX5_isPerson 13 = .ok (.goto 4, 3) := by decide +kernel
theorem dX5_isPerson_16 : decode cX5_isPerson 16 = .ok (.iconst 0, 1) := by decide +kernel
theorem dX5_isPerson_17 : decode cX5_isPerson 17 = .ok (.ireturn, 1) := by decide +kernel
theorem dX5_isThing_0 : decode cX5_isThing 0 = .ok (.iload_n 1, 1) := by decide +kernel
theorem dX5_isThing_1 : decode cX5_isThing 1 = .ok (.ifCond .lt 15, 3) := by decide +kernel
theorem dX5_isThing_4 : decode cX5_isThing 4 = .ok (.iload_n 1, 1) := by decide +kernel
theorem dX5_isThing_5 : decode cX5_isThing 5 = .ok (.aload_n 0, 1) := by decide +kernel
theorem dX5_isThing_6 : decode cX5_isThing 6 = .ok (.getfield 55, 3) := by decide +kernel
theorem dX5_isThing_9 : decode cX5_isThing 9 = .ok (.if_icmp .ge 7, 3) := by decide +kernel
theorem dX5_isThing_12 : decode cX5_isThing 12 = .ok (.iconst 1, 1) := by decide +kernel
theorem dX5_isThing_13 : decode cX5_isThing 13 = .ok (.goto 4, 3) := by decide +kernel
theorem dX5_isThing_16 : decode cX5_isThing 16 = .ok (.iconst 0, 1) := by decide +kernel
theorem dX5_isThing_17 : decode cX5_isThing 17 = .ok (.ireturn, 1) := by decide +kernel
theorem dX5_hear_0 : decode cX5_hear 0 = .ok (.iload_n 1, 1) := by decide +kernel
theorem dX5_hear_1 : decode cX5_hear 1 = .ok (.tableswitch 89 110 119 #[55, 89, 77, 89, 89, 89, 83, 89, 89, 63], 55) := by decide +kernel
theorem dX5_hear_56 : decode cX5_hear 56 = .ok (.aload_n 0, 1) := by decide +kernel
theorem dX5_hear_57 : decode cX5_hear 57 = .ok (.aload_n 2, 1) := by decide +kernel
theorem dX5_hear_58 : decode cX5_hear 58 = .ok (.iconst 0, 1) := by decide +kernel
theorem dX5_hear_59 : decode cX5_hear 59 = .ok (.iaload, 1) := by decide +kernel
theorem dX5_hear_60 : decode cX5_hear 60 = .ok (.invokevirtual 61, 3) := by decide +kernel
theorem dX5_hear_63 : decode cX5_hear 63 = .ok (.ireturn, 1) := by decide +kernel
theorem dX5_hear_64 : decode cX5_hear 64 = .ok (.aload_n 0, 1) := by decide +kernel
theorem dX5_hear_65 : decode cX5_hear 65 = .ok (.aload_n 2, 1) := by decide +kernel
theorem dX5_hear_66 : decode cX5_hear 66 = .ok (.iconst 0, 1) := by decide +kernel
theorem dX5_hear_67 : decode cX5_hear 67 = .ok (.iaload, 1) := by decide +kernel
theorem dX5_hear_68 : decode cX5_hear 68 = .ok (.aload_n 2, 1) := by decide +kernel
theorem dX5_hear_69 : decode cX5_hear 69 = .ok (.iconst 1, 1) := by decide +kernel
theorem dX5_hear_70 : decode cX5_hear 70 = .ok (.iaload, 1) := by decide +kernel
theorem dX5_hear_71 : decode cX5_hear 71 = .ok (.aload_n 2, 1) := by decide +kernel
theorem dX5_hear_72 : decode cX5_hear 72 = .ok (.iconst 2, 1) := by decide +kernel
theorem dX5_hear_73 : decode cX5_hear 73 = .ok (.iaload, 1) := by decide +kernel
theorem dX5_hear_74 : decode cX5_hear 74 = .ok (.invokevirtual 65, 3) := by decide +kernel
theorem dX5_hear_77 : decode cX5_hear 77 = .ok (.ireturn, 1) := by decide +kernel
theorem dX5_hear_78 : decode cX5_hear 78 = .ok (.aload_n 0, 1) := by decide +kernel
theorem dX5_hear_79 : decode cX5_hear 79 = .ok (.aload_n 2, 1) := by decide +kernel
theorem dX5_hear_80 : decode cX5_hear 80 = .ok (.invokevirtual 69, 3) := by decide +kernel
theorem dX5_hear_83 : decode cX5_hear 83 = .ok (.ireturn, 1) := by decide +kernel
theorem dX5_hear_84 : decode cX5_hear 84 = .ok (.aload_n 0, 1) := by decide +kernel
theorem dX5_hear_85 : decode cX5_hear 85 = .ok (.aload_n 2, 1) := by decide +kernel
theorem dX5_hear_86 : decode cX5_hear 86 = .ok (.invokevirtual 73, 3) := by decide +kernel
theorem dX5_hear_89 : decode cX5_hear 89 = .ok (.ireturn, 1) := by decide +kernel
theorem dX5_hear_90 : decode cX5_hear 90 = .ok (.iconst 0, 1) := by decide +kernel
theorem dX5_hear_91 : decode cX5_hear 91 = .ok (.ireturn, 1) := by decide +kernel
theorem dX5_hearPlaces_0 : decode cX5_hearPlaces 0 = .ok (.iload_n 1, 1) := by decide +kernel
theorem dX5_hearPlaces_1 : decode cX5_hearPlaces 1 = .ok (.iconst 2, 1) := by decide +kernel
theorem dX5_hearPlaces_2 : decode cX5_hearPlaces 2 = .ok (.if_icmp .lt 17, 3) := by decide +kernel
theorem dX5_hearPlaces_5 : decode cX5_hearPlaces 5 = .ok (.iload_n 1, 1) := by decide +kernel
theorem dX5_hearPlaces_6 : decode cX5_hearPlaces 6 = .ok (.bipush 7, 2) := by decide +kernel
theorem dX5_hearPlaces_8 : decode cX5_hearPlaces 8 = .ok (.if_icmp .gt 11, 3) := by decide +kernel
theorem dX5_hearPlaces_11 : decode cX5_hearPlaces 11 = .ok (.iload_n 1, 1) := by decide +kernel
theorem dX5_hearPlaces_12 : decode cX5_hearPlaces 12 = .ok (.aload_n 0, 1) := by decide +kernel
theorem dX5_hearPlaces_13 : decode cX5_hearPlaces 13 = .ok (.invokevirtual 76, 3) := by decide +kernel
theorem dX5_hearPlaces_16 : decode cX5_hearPlaces 16 = .ok (.if_icmp .gt 5, 3) := by decide +kernel
theorem dX5_hearPlaces_19 : decode cX5_hearPlaces 19 = .ok (.iconst 0, 1) := by decide +kernel
theorem dX5_hearPlaces_20 : decode cX5_hearPlaces 20 = .ok (.ireturn, 1) := by decide +kernel
theorem dX5_hearPlaces_21 : decode cX5_hearPlaces 21 = .ok (.aload_n 0, 1) := by decide +kernel
theorem dX5_hearPlaces_22 : decode cX5_hearPlaces 22 = .ok (.iload_n 1, 1) := by decide +kernel
theorem dX5_hearPlaces_23 : decode cX5_hearPlaces 23 = .ok (.putfield 30, 3) := by decide +kernel
theorem dX5_hearPlaces_26 : decode cX5_hearPlaces 26 = .ok (.iconst 1, 1) := by decide +kernel
theorem dX5_hearPlaces_27 : decode cX5_hearPlaces 27 = .ok (.ireturn, 1) := by decide +kernel
theorem dX5_highestPlace_0 : decode cX5_highestPlace 0 = .ok (.iconst (-1), 1) := by decide +kernel
theorem dX5_highestPlace_1 : decode cX5_highestPlace 1 = .ok (.istore_n 1, 1) := by decide +kernel
theorem dX5_highestPlace_2 : decode cX5_highestPlace 2 = .ok (.iconst 0, 1) := by decide +kernel
theorem dX5_highestPlace_3 : decode cX5_highestPlace 3 = .ok (.istore_n 2, 1) := by decide +kernel
theorem dX5_highestPlace_4 : decode cX5_highestPlace 4 = .ok (.iload_n 2, 1) := by decide +kernel
theorem dX5_highestPlace_5 : decode cX5_highestPlace 5 = .ok (.aload_n 0, 1) := by decide +kernel
theorem dX5_highestPlace_6 : decode cX5_highestPlace 6 = .ok (.getfield 23, 3) := by decide +kernel
theorem dX5_highestPlace_9 : decode cX5_highestPlace 9 = .ok (.arraylength, 1) := by decide +kernel
theorem dX5_highestPlace_10 : decode cX5_highestPlace 10 = .ok (.if_icmp .ge 27, 3) := by decide +kernel
theorem dX5_highestPlace_13 : decode cX5_highestPlace 13 = .ok (.aload_n 0, 1) := by decide +kernel
theorem dX5_highestPlace_14 : decode cX5_highestPlace 14 = .ok (.getfield 23, 3) := by decide +kernel
theorem dX5_highestPlace_17 : decode cX5_highestPlace 17 = .ok (.iload_n 2, 1) := by decide +kernel
theorem dX5_highestPlace_18 : decode cX5_highestPlace 18 = .ok (.iaload, 1) := by decide +kernel
theorem dX5_highestPlace_19 : decode cX5_highestPlace 19 = .ok (.ifCond .le 12, 3) := by decide +kernel
theorem dX5_highestPlace_22 : decode cX5_highestPlace 22 = .ok (.iload_n 1, 1) := by decide +kernel
theorem dX5_highestPlace_23 : decode cX5_highestPlace 23 = .ok (.iload_n 2, 1) := by decide +kernel
theorem dX5_highestPlace_24 : decode cX5_highestPlace 24 = .ok (.bipush 7, 2) := by decide +kernel
theorem dX5_highestPlace_26 : decode cX5_highestPlace 26 = .ok (.idiv, 1) := by decide +kernel
theorem dX5_highestPlace_27 : decode cX5_highestPlace 27 = .ok (.invokestatic 80, 3) := by decide +kernel
theorem dX5_highestPlace_30 : decode cX5_highestPlace 30 = .ok (.istore_n 1, 1) := by decide +kernel
theorem dX5_highestPlace_31 : decode cX5_highestPlace 31 = .ok (.iinc 2 1, 3) := by decide +kernel
theorem dX5_highestPlace_34 : decode cX5_highestPlace 34 = .ok (.goto (-30), 3) := by decide +kernel
theorem dX5_highestPlace_37 : decode cX5_highestPlace 37 = .ok (.iconst 0, 1) := by decide +kernel
theorem dX5_highestPlace_38 : decode cX5_highestPlace 38 = .ok (.istore_n 2, 1) := by decide +kernel
theorem dX5_highestPlace_39 : decode cX5_highestPlace 39 = .ok (.iload_n 2, 1) := by decide +kernel
theorem dX5_highestPlace_40 : decode cX5_highestPlace 40 = .ok (.aload_n 0, 1) := by decide +kernel
theorem dX5_highestPlace_41 : decode cX5_highestPlace 41 = .ok (.getfield 52, 3) := by decide +kernel
theorem dX5_highestPlace_44 : decode cX5_highestPlace 44 = .ok (.if_icmp .ge 39, 3) := by decide +kernel
theorem dX5_highestPlace_47 : decode cX5_highestPlace 47 = .ok (.aload_n 0, 1) := by decide +kernel
theorem dX5_highestPlace_48 : decode cX5_highestPlace 48 = .ok (.getfield 11, 3) := by decide +kernel
theorem dX5_highestPlace_51 : decode cX5_highestPlace 51 = .ok (.iload_n 2, 1) := by decide +kernel
theorem dX5_highestPlace_52 : decode cX5_highestPlace 52 = .ok (.aaload, 1) := by decide +kernel
theorem dX5_highestPlace_53 : decode cX5_highestPlace 53 = .ok (.astore_n 3, 1) := by decide +kernel
theorem dX5_highestPlace_54 : decode cX5_highestPlace 54 = .ok (.iload_n 1, 1) := by decide +kernel
theorem dX5_highestPlace_55 : decode cX5_highestPlace 55 = .ok (.aload_n 3, 1) := by decide +kernel
theorem dX5_highestPlace_56 : decode cX5_highestPlace 56 = .ok (.getfield 86, 3) := by decide +kernel
theorem dX5_highestPlace_59 : decode cX5_highestPlace 59 = .ok (.aload_n 3, 1) := by decide +kernel
theorem dX5_highestPlace_60 : decode cX5_highestPlace 60 = .ok (.getfield 89, 3) := by decide +kernel
theorem dX5_highestPlace_63 : decode cX5_highestPlace 63 = .ok (.aload_n 3, 1) := by decide +kernel
theorem dX5_highestPlace_64 : decode cX5_highestPlace 64 = .ok (.getfield 92, 3) := by decide +kernel
theorem dX5_highestPlace_67 : decode cX5_highestPlace 67 = .ok (.invokestatic 80, 3) := by decide +kernel
theorem dX5_highestPlace_70 : decode cX5_highestPlace 70 = .ok (.invokestatic 80, 3) := by decide +kernel
theorem dX5_highestPlace_73 : decode cX5_highestPlace 73 = .ok (.invokestatic 80, 3) := by decide +kernel
theorem dX5_highestPlace_76 : decode cX5_highestPlace 76 = .ok (.istore_n 1, 1) := by decide +kernel
theorem dX5_highestPlace_77 : decode cX5_highestPlace 77 = .ok (.iinc 2 1, 3) := by decide +kernel
theorem dX5_highestPlace_80 : decode cX5_highestPlace 80 = .ok (.goto (-41), 3) := by decide +kernel
theorem dX5_highestPlace_83 : decode cX5_highestPlace 83 = .ok (.iconst 0, 1) := by decide +kernel
theorem dX5_highestPlace_84 : decode cX5_highestPlace 84 = .ok (.istore_n 2, 1) := by decide +kernel
theorem dX5_highestPlace_85 : decode cX5_highestPlace 85 = .ok (.iload_n 2, 1) := by decide +kernel
theorem dX5_highestPlace_86 : decode cX5_highestPlace 86 = .ok (.aload_n 0, 1) := by decide +kernel
theorem dX5_highestPlace_87 : decode cX5_highestPlace 87 = .ok (.getfield 55, 3) := by decide +kernel
theorem dX5_highestPlace_90 : decode cX5_highestPlace 90 = .ok (.if_icmp .ge 50, 3) := by decide +kernel
theorem dX5_highestPlace_93 : decode cX5_highestPlace 93 = .ok (.aload_n 0, 1) := by decide +kernel
theorem dX5_highestPlace_94 : decode cX5_highestPlace 94 = .ok (.getfield 19, 3) := by decide +kernel
theorem dX5_highestPlace_97 : decode cX5_highestPlace 97 = .ok (.iload_n 2, 1) := by decide +kernel
theorem dX5_highestPlace_98 : decode cX5_highestPlace 98 = .ok (.aaload, 1) := by decide +kernel
theorem dX5_highestPlace_99 : decode cX5_highestPlace 99 = .ok (.astore_n 3, 1) := by decide +kernel
theorem dX5_highestPlace_100 : decode cX5_highestPlace 100 = .ok (.iload_n 1, 1) := by decide +kernel
theorem dX5_highestPlace_101 : decode cX5_highestPlace 101 = .ok (.aload_n 3, 1) := by decide +kernel
theorem dX5_highestPlace_102 : decode cX5_highestPlace 102 = .ok (.getfield 95, 3) := by decide +kernel
theorem dX5_highestPlace_105 : decode cX5_highestPlace 105 = .ok (.aload_n 3, 1) := by decide +kernel
theorem dX5_highestPlace_106 : decode cX5_highestPlace 106 = .ok (.getfield 96, 3) := by decide +kernel
theorem dX5_highestPlace_109 : decode cX5_highestPlace 109 = .ok (.invokestatic 80, 3) := by decide +kernel
theorem dX5_highestPlace_112 : decode cX5_highestPlace 112 = .ok (.invokestatic 80, 3) := by decide +kernel
theorem dX5_highestPlace_115 : decode cX5_highestPlace 115 = .ok (.istore_n 1, 1) := by decide +kernel
theorem dX5_highestPlace_116 : decode cX5_highestPlace 116 = .ok (.aload_n 3, 1) := by decide +kernel
theorem dX5_highestPlace_117 : decode cX5_highestPlace 117 = .ok (.getfield 97, 3) := by decide +kernel
theorem dX5_highestPlace_120 : decode cX5_highestPlace 120 = .ok (.bipush 10, 2) := by decide +kernel
theorem dX5_highestPlace_122 : decode cX5_highestPlace 122 = .ok (.if_icmp .ge 12, 3) := by decide +kernel
theorem dX5_highestPlace_125 : decode cX5_highestPlace 125 = .ok (.iload_n 1, 1) := by decide +kernel
theorem dX5_highestPlace_126 : decode cX5_highestPlace 126 = .ok (.aload_n 3, 1) := by decide +kernel
theorem dX5_highestPlace_127 : decode cX5_highestPlace 127 = .ok (.getfield 97, 3) := by decide +kernel
theorem dX5_highestPlace_130 : decode cX5_highestPlace 130 = .ok (.invokestatic 80, 3) := by decide +kernel
theorem dX5_highestPlace_133 : decode cX5_highestPlace 133 = .ok (.istore_n 1, 1) := by decide +kernel
theorem dX5_highestPlace_134 : decode cX5_highestPlace 134 = .ok (.iinc 2 1, 3) := by decide +kernel
theorem dX5_highestPlace_137 : decode cX5_highestPlace 137 = .ok (.goto (-52), 3) := by decide +kernel
theorem dX5_highestPlace_140 : decode cX5_highestPlace 140 = .ok (.iload_n 1, 1) := by decide +kernel
theorem dX5_highestPlace_141 : decode cX5_highestPlace 141 = .ok (.ireturn, 1) := by decide +kernel
theorem dX5_hearWay_0 : decode cX5_hearWay 0 = .ok (.aload_n 0, 1) := by decide +kernel
theorem dX5_hearWay_1 : decode cX5_hearWay 1 = .ok (.iload_n 1, 1) := by decide +kernel
theorem dX5_hearWay_2 : decode cX5_hearWay 2 = .ok (.invokevirtual 100, 3) := by decide +kernel
theorem dX5_hearWay_5 : decode cX5_hearWay 5 = .ok (.ifCond .eq 27, 3) := by decide +kernel
theorem dX5_hearWay_8 : decode cX5_hearWay 8 = .ok (.aload_n 0, 1) := by decide +kernel
theorem dX5_hearWay_9 : decode cX5_hearWay 9 = .ok (.iload_n 2, 1) := by decide +kernel
theorem dX5_hearWay_10 : decode cX5_hearWay 10 = .ok (.invokevirtual 100, 3) := by decide +kernel
theorem dX5_hearWay_13 : decode cX5_hearWay 13 = .ok (.ifCond .eq 19, 3) := by decide +kernel
theorem dX5_hearWay_16 : decode cX5_hearWay 16 = .ok (.iload_n 1, 1) := by decide +kernel
theorem dX5_hearWay_17 : decode cX5_hearWay 17 = .ok (.iload_n 2, 1) := by decide +kernel
theorem dX5_hearWay_18 : decode cX5_hearWay 18 = .ok (.if_icmp .eq 14, 3) := by decide +kernel
theorem dX5_hearWay_21 : decode cX5_hearWay 21 = .ok (.iload_n 3, 1) := by decide +kernel
theorem dX5_hearWay_22 : decode cX5_hearWay 22 = .ok (.iconst 1, 1) := by decide +kernel
theorem dX5_hearWay_23 : decode cX5_hearWay 23 = .ok (.if_icmp .lt 9, 3) := by decide +kernel
theorem dX5_hearWay_26 : decode cX5_hearWay 26 = .ok (.iload_n 3, 1) := by decide +kernel
theorem dX5_hearWay_27 : decode cX5_hearWay 27 = .ok (.bipush 60, 2) := by decide +kernel
theorem dX5_hearWay_29 : decode cX5_hearWay 29 = .ok (.if_icmp .le 5, 3) := by decide +kernel
theorem dX5_hearWay_32 : decode cX5_hearWay 32 = .ok (.iconst 0, 1) := by decide +kernel
theorem dX5_hearWay_33 : decode cX5_hearWay 33 = .ok (.ireturn, 1) := by decide +kernel
theorem dX5_hearWay_34 : decode cX5_hearWay 34 = .ok (.aload_n 0, 1) := by decide +kernel
theorem dX5_hearWay_35 : decode cX5_hearWay 35 = .ok (.getfield 23, 3) := by decide +kernel
theorem dX5_hearWay_38 : decode cX5_hearWay 38 = .ok (.iload_n 1, 1) := by decide +kernel
theorem dX5_hearWay_39 : decode cX5_hearWay 39 = .ok (.bipush 7, 2) := by decide +kernel
theorem dX5_hearWay_41 : decode cX5_hearWay 41 = .ok (.imul, 1) := by decide +kernel
theorem dX5_hearWay_42 : decode cX5_hearWay 42 = .ok (.iload_n 2, 1) := by decide +kernel
theorem dX5_hearWay_43 : decode cX5_hearWay 43 = .ok (.iadd, 1) := by decide +kernel
theorem dX5_hearWay_44 : decode cX5_hearWay 44 = .ok (.iload_n 3, 1) := by decide +kernel
theorem dX5_hearWay_45 : decode cX5_hearWay 45 = .ok (.iastore, 1) := by decide +kernel
theorem dX5_hearWay_46 : decode cX5_hearWay 46 = .ok (.aload_n 0, 1) := by decide +kernel
theorem dX5_hearWay_47 : decode cX5_hearWay 47 = .ok (.getfield 23, 3) := by decide +kernel
theorem dX5_hearWay_50 : decode cX5_hearWay 50 = .ok (.iload_n 2, 1) := by decide +kernel
theorem dX5_hearWay_51 : decode cX5_hearWay 51 = .ok (.bipush 7, 2) := by decide +kernel
theorem dX5_hearWay_53 : decode cX5_hearWay 53 = .ok (.imul, 1) := by decide +kernel
theorem dX5_hearWay_54 : decode cX5_hearWay 54 = .ok (.iload_n 1, 1) := by decide +kernel
theorem dX5_hearWay_55 : decode cX5_hearWay 55 = .ok (.iadd, 1) := by decide +kernel
theorem dX5_hearWay_56 : decode cX5_hearWay 56 = .ok (.iload_n 3, 1) := by decide +kernel
theorem dX5_hearWay_57 : decode cX5_hearWay 57 = .ok (.iastore, 1) := by decide +kernel
theorem dX5_hearWay_58 : decode cX5_hearWay 58 = .ok (.iconst 1, 1) := by decide +kernel
theorem dX5_hearWay_59 : decode cX5_hearWay 59 = .ok (.ireturn, 1) := by decide +kernel
theorem dX5_hearPerson_0 : decode cX5_hearPerson 0 = .ok (.aload_n 0, 1) := by decide +kernel
theorem dX5_hearPerson_1 : decode cX5_hearPerson 1 = .ok (.getfield 52, 3) := by decide +kernel
theorem dX5_hearPerson_4 : decode cX5_hearPerson 4 = .ok (.bipush 6, 2) := by decide +kernel
theorem dX5_hearPerson_6 : decode cX5_hearPerson 6 = .ok (.if_icmp .ge 32, 3) := by decide +kernel
theorem dX5_hearPerson_9 : decode cX5_hearPerson 9 = .ok (.aload_n 0, 1) := by decide +kernel
theorem dX5_hearPerson_10 : decode cX5_hearPerson 10 = .ok (.aload_n 1, 1) := by decide +kernel
theorem dX5_hearPerson_11 : decode cX5_hearPerson 11 = .ok (.iconst 0, 1) := by decide +kernel
theorem dX5_hearPerson_12 : decode cX5_hearPerson 12 = .ok (.iaload, 1) := by decide +kernel
theorem dX5_hearPerson_13 : decode cX5_hearPerson 13 = .ok (.invokevirtual 100, 3) := by decide +kernel
theorem dX5_hearPerson_16 : decode cX5_hearPerson 16 = .ok (.ifCond .eq 22, 3) := by decide +kernel
theorem dX5_hearPerson_19 : decode cX5_hearPerson 19 = .ok (.aload_n 0, 1) := by decide +kernel
theorem dX5_hearPerson_20 : decode cX5_hearPerson 20 = .ok (.aload_n 1, 1) := by decide +kernel
theorem dX5_hearPerson_21 : decode cX5_hearPerson 21 = .ok (.iconst 1, 1) := by decide +kernel
theorem dX5_hearPerson_22 : decode cX5_hearPerson 22 = .ok (.iaload, 1) := by decide +kernel
theorem dX5_hearPerson_23 : decode cX5_hearPerson 23 = .ok (.invokevirtual 100, 3) := by decide +kernel
theorem dX5_hearPerson_26 : decode cX5_hearPerson 26 = .ok (.ifCond .eq 12, 3) := by decide +kernel
theorem dX5_hearPerson_29 : decode cX5_hearPerson 29 = .ok (.aload_n 1, 1) := by decide +kernel
theorem dX5_hearPerson_30 : decode cX5_hearPerson 30 = .ok (.iconst 2, 1) := by decide +kernel
theorem dX5_hearPerson_31 : decode cX5_hearPerson 31 = .ok (.iaload, 1) := by decide +kernel
theorem dX5_hearPerson_32 : decode cX5_hearPerson 32 = .ok (.sipush 720, 3) := by decide +kernel
theorem dX5_hearPerson_35 : decode cX5_hearPerson 35 = .ok (.if_icmp .le 5, 3) := by decide +kernel
theorem dX5_hearPerson_38 : decode cX5_hearPerson 38 = .ok (.iconst 0, 1) := by decide +kernel
theorem dX5_hearPerson_39 : decode cX5_hearPerson 39 = .ok (.ireturn, 1) := by decide +kernel
theorem dX5_hearPerson_40 : decode cX5_hearPerson 40 = .ok (.aload_n 0, 1) := by decide +kernel
theorem dX5_hearPerson_41 : decode cX5_hearPerson 41 = .ok (.getfield 11, 3) := by decide +kernel
theorem dX5_hearPerson_44 : decode cX5_hearPerson 44 = .ok (.aload_n 0, 1) := by decide +kernel
theorem dX5_hearPerson_45 : decode cX5_hearPerson 45 = .ok (.getfield 52, 3) := by decide +kernel
theorem dX5_hearPerson_48 : decode cX5_hearPerson 48 = .ok (.aaload, 1) := by decide +kernel
theorem dX5_hearPerson_49 : decode cX5_hearPerson 49 = .ok (.astore_n 2, 1) := by decide +kernel
theorem dX5_hearPerson_50 : decode cX5_hearPerson 50 = .ok (.aload_n 2, 1) := by decide +kernel
theorem dX5_hearPerson_51 : decode cX5_hearPerson 51 = .ok (.aload_n 1, 1) := by decide +kernel
theorem dX5_hearPerson_52 : decode cX5_hearPerson 52 = .ok (.iconst 0, 1) := by decide +kernel
theorem dX5_hearPerson_53 : decode cX5_hearPerson 53 = .ok (.iaload, 1) := by decide +kernel
theorem dX5_hearPerson_54 : decode cX5_hearPerson 54 = .ok (.putfield 89, 3) := by decide +kernel
theorem dX5_hearPerson_57 : decode cX5_hearPerson 57 = .ok (.aload_n 2, 1) := by decide +kernel
theorem dX5_hearPerson_58 : decode cX5_hearPerson 58 = .ok (.aload_n 1, 1) := by decide +kernel
theorem dX5_hearPerson_59 : decode cX5_hearPerson 59 = .ok (.iconst 1, 1) := by decide +kernel
theorem dX5_hearPerson_60 : decode cX5_hearPerson 60 = .ok (.iaload, 1) := by decide +kernel
theorem dX5_hearPerson_61 : decode cX5_hearPerson 61 = .ok (.putfield 92, 3) := by decide +kernel
theorem dX5_hearPerson_64 : decode cX5_hearPerson 64 = .ok (.aload_n 2, 1) := by decide +kernel
theorem dX5_hearPerson_65 : decode cX5_hearPerson 65 = .ok (.aload_n 1, 1) := by decide +kernel
theorem dX5_hearPerson_66 : decode cX5_hearPerson 66 = .ok (.iconst 2, 1) := by decide +kernel
theorem dX5_hearPerson_67 : decode cX5_hearPerson 67 = .ok (.iaload, 1) := by decide +kernel
theorem dX5_hearPerson_68 : decode cX5_hearPerson 68 = .ok (.putfield 103, 3) := by decide +kernel
theorem dX5_hearPerson_71 : decode cX5_hearPerson 71 = .ok (.aload_n 2, 1) := by decide +kernel
theorem dX5_hearPerson_72 : decode cX5_hearPerson 72 = .ok (.aload_n 1, 1) := by decide +kernel
theorem dX5_hearPerson_73 : decode cX5_hearPerson 73 = .ok (.iconst 3, 1) := by decide +kernel
theorem dX5_hearPerson_74 : decode cX5_hearPerson 74 = .ok (.iaload, 1) := by decide +kernel
theorem dX5_hearPerson_75 : decode cX5_hearPerson 75 = .ok (.putfield 106, 3) := by decide +kernel
theorem dX5_hearPerson_78 : decode cX5_hearPerson 78 = .ok (.aload_n 2, 1) := by decide +kernel
theorem dX5_hearPerson_79 : decode cX5_hearPerson 79 = .ok (.aload_n 1, 1) := by decide +kernel
theorem dX5_hearPerson_80 : decode cX5_hearPerson 80 = .ok (.iconst 4, 1) := by decide +kernel
theorem dX5_hearPerson_81 : decode cX5_hearPerson 81 = .ok (.iaload, 1) := by decide +kernel
theorem dX5_hearPerson_82 : decode cX5_hearPerson 82 = .ok (.putfield 109, 3) := by decide +kernel
theorem dX5_hearPerson_85 : decode cX5_hearPerson 85 = .ok (.aload_n 2, 1) := by decide +kernel
theorem dX5_hearPerson_86 : decode cX5_hearPerson 86 = .ok (.aload_n 2, 1) := by decide +kernel
theorem dX5_hearPerson_87 : decode cX5_hearPerson 87 = .ok (.getfield 89, 3) := by decide +kernel
theorem dX5_hearPerson_90 : decode cX5_hearPerson 90 = .ok (.putfield 86, 3) := by decide +kernel
theorem dX5_hearPerson_93 : decode cX5_hearPerson 93 = .ok (.aload_n 2, 1) := by decide +kernel
theorem dX5_hearPerson_94 : decode cX5_hearPerson 94 = .ok (.aload_n 2, 1) := by decide +kernel
theorem dX5_hearPerson_95 : decode cX5_hearPerson 95 = .ok (.getfield 103, 3) := by decide +kernel
theorem dX5_hearPerson_98 : decode cX5_hearPerson 98 = .ok (.putfield 112, 3) := by decide +kernel
theorem dX5_hearPerson_101 : decode cX5_hearPerson 101 = .ok (.aload_n 0, 1) := by decide +kernel
theorem dX5_hearPerson_102 : decode cX5_hearPerson 102 = .ok (.dup, 1) := by decide +kernel
theorem dX5_hearPerson_103 : decode cX5_hearPerson 103 = .ok (.getfield 52, 3) := by decide +kernel
theorem dX5_hearPerson_106 : decode cX5_hearPerson 106 = .ok (.iconst 1, 1) := by decide +kernel
theorem dX5_hearPerson_107 : decode cX5_hearPerson 107 = .ok (.iadd, 1) := by decide +kernel
theorem dX5_hearPerson_108 : decode cX5_hearPerson 108 = .ok (.putfield 52, 3) := by decide +kernel
theorem dX5_hearPerson_111 : decode cX5_hearPerson 111 = .ok (.iconst 1, 1) := by decide +kernel
theorem dX5_hearPerson_112 : decode cX5_hearPerson 112 = .ok (.ireturn, 1) := by decide +kernel
theorem dX5_hearThing_0 : decode cX5_hearThing 0 = .ok (.aload_n 0, 1) := by decide +kernel
theorem dX5_hearThing_1 : decode cX5_hearThing 1 = .ok (.getfield 55, 3) := by decide +kernel
theorem dX5_hearThing_4 : decode cX5_hearThing 4 = .ok (.bipush 6, 2) := by decide +kernel
theorem dX5_hearThing_6 : decode cX5_hearThing 6 = .ok (.if_icmp .ge 50, 3) := by decide +kernel
theorem dX5_hearThing_9 : decode cX5_hearThing 9 = .ok (.aload_n 0, 1) := by decide +kernel
theorem dX5_hearThing_10 : decode cX5_hearThing 10 = .ok (.aload_n 1, 1) := by decide +kernel
theorem dX5_hearThing_11 : decode cX5_hearThing 11 = .ok (.iconst 0, 1) := by decide +kernel
theorem dX5_hearThing_12 : decode cX5_hearThing 12 = .ok (.iaload, 1) := by decide +kernel
theorem dX5_hearThing_13 : decode cX5_hearThing 13 = .ok (.invokevirtual 115, 3) := by decide +kernel
theorem dX5_hearThing_16 : decode cX5_hearThing 16 = .ok (.ifCond .eq 40, 3) := by decide +kernel
theorem dX5_hearThing_19 : decode cX5_hearThing 19 = .ok (.aload_n 0, 1) := by decide +kernel
theorem dX5_hearThing_20 : decode cX5_hearThing 20 = .ok (.aload_n 1, 1) := by decide +kernel
theorem dX5_hearThing_21 : decode cX5_hearThing 21 = .ok (.iconst 1, 1) := by decide +kernel
theorem dX5_hearThing_22 : decode cX5_hearThing 22 = .ok (.iaload, 1) := by decide +kernel
theorem dX5_hearThing_23 : decode cX5_hearThing 23 = .ok (.invokevirtual 115, 3) := by decide +kernel
theorem dX5_hearThing_26 : decode cX5_hearThing 26 = .ok (.ifCond .eq 30, 3) := by decide +kernel
theorem dX5_hearThing_29 : decode cX5_hearThing 29 = .ok (.aload_n 0, 1) := by decide +kernel
theorem dX5_hearThing_30 : decode cX5_hearThing 30 = .ok (.aload_n 1, 1) := by decide +kernel
theorem dX5_hearThing_31 : decode cX5_hearThing 31 = .ok (.iconst 2, 1) := by decide +kernel
theorem dX5_hearThing_32 : decode cX5_hearThing 32 = .ok (.iaload, 1) := by decide +kernel
theorem dX5_hearThing_33 : decode cX5_hearThing 33 = .ok (.invokevirtual 100, 3) := by decide +kernel
theorem dX5_hearThing_36 : decode cX5_hearThing 36 = .ok (.ifCond .eq 20, 3) := by decide +kernel
theorem dX5_hearThing_39 : decode cX5_hearThing 39 = .ok (.aload_n 0, 1) := by decide +kernel
theorem dX5_hearThing_40 : decode cX5_hearThing 40 = .ok (.aload_n 1, 1) := by decide +kernel
theorem dX5_hearThing_41 : decode cX5_hearThing 41 = .ok (.iconst 3, 1) := by decide +kernel
theorem dX5_hearThing_42 : decode cX5_hearThing 42 = .ok (.iaload, 1) := by decide +kernel
theorem dX5_hearThing_43 : decode cX5_hearThing 43 = .ok (.invokevirtual 100, 3) := by decide +kernel
theorem dX5_hearThing_46 : decode cX5_hearThing 46 = .ok (.ifCond .eq 10, 3) := by decide +kernel
theorem dX5_hearThing_49 : decode cX5_hearThing 49 = .ok (.aload_n 1, 1) := by decide +kernel
theorem dX5_hearThing_50 : decode cX5_hearThing 50 = .ok (.iconst 4, 1) := by decide +kernel
theorem dX5_hearThing_51 : decode cX5_hearThing 51 = .ok (.iaload, 1) := by decide +kernel
theorem dX5_hearThing_52 : decode cX5_hearThing 52 = .ok (.iconst 1, 1) := by decide +kernel
theorem dX5_hearThing_53 : decode cX5_hearThing 53 = .ok (.if_icmp .ge 5, 3) := by decide +kernel
theorem dX5_hearThing_56 : decode cX5_hearThing 56 = .ok (.iconst 0, 1) := by decide +kernel
theorem dX5_hearThing_57 : decode cX5_hearThing 57 = .ok (.ireturn, 1) := by decide +kernel
theorem dX5_hearThing_58 : decode cX5_hearThing 58 = .ok (.aload_n 0, 1) := by decide +kernel
theorem dX5_hearThing_59 : decode cX5_hearThing 59 = .ok (.getfield 19, 3) := by decide +kernel
theorem dX5_hearThing_62 : decode cX5_hearThing 62 = .ok (.aload_n 0, 1) := by decide +kernel
theorem dX5_hearThing_63 : decode cX5_hearThing 63 = .ok (.getfield 55, 3) := by decide +kernel
theorem dX5_hearThing_66 : decode cX5_hearThing 66 = .ok (.aaload, 1) := by decide +kernel
theorem dX5_hearThing_67 : decode cX5_hearThing 67 = .ok (.astore_n 2, 1) := by decide +kernel
theorem dX5_hearThing_68 : decode cX5_hearThing 68 = .ok (.aload_n 2, 1) := by decide +kernel
theorem dX5_hearThing_69 : decode cX5_hearThing 69 = .ok (.aload_n 1, 1) := by decide +kernel
theorem dX5_hearThing_70 : decode cX5_hearThing 70 = .ok (.iconst 0, 1) := by decide +kernel
theorem dX5_hearThing_71 : decode cX5_hearThing 71 = .ok (.iaload, 1) := by decide +kernel
theorem dX5_hearThing_72 : decode cX5_hearThing 72 = .ok (.putfield 118, 3) := by decide +kernel
theorem dX5_hearThing_75 : decode cX5_hearThing 75 = .ok (.aload_n 2, 1) := by decide +kernel
theorem dX5_hearThing_76 : decode cX5_hearThing 76 = .ok (.aload_n 1, 1) := by decide +kernel
theorem dX5_hearThing_77 : decode cX5_hearThing 77 = .ok (.iconst 1, 1) := by decide +kernel
theorem dX5_hearThing_78 : decode cX5_hearThing 78 = .ok (.iaload, 1) := by decide +kernel
theorem dX5_hearThing_79 : decode cX5_hearThing 79 = .ok (.putfield 121, 3) := by decide +kernel
theorem dX5_hearThing_82 : decode cX5_hearThing 82 = .ok (.aload_n 2, 1) := by decide +kernel
theorem dX5_hearThing_83 : decode cX5_hearThing 83 = .ok (.aload_n 1, 1) := by decide +kernel
theorem dX5_hearThing_84 : decode cX5_hearThing 84 = .ok (.iconst 2, 1) := by decide +kernel
theorem dX5_hearThing_85 : decode cX5_hearThing 85 = .ok (.iaload, 1) := by decide +kernel
theorem dX5_hearThing_86 : decode cX5_hearThing 86 = .ok (.putfield 95, 3) := by decide +kernel
theorem dX5_hearThing_89 : decode cX5_hearThing 89 = .ok (.aload_n 2, 1) := by decide +kernel
theorem dX5_hearThing_90 : decode cX5_hearThing 90 = .ok (.aload_n 1, 1) := by decide +kernel
theorem dX5_hearThing_91 : decode cX5_hearThing 91 = .ok (.iconst 3, 1) := by decide +kernel
theorem dX5_hearThing_92 : decode cX5_hearThing 92 = .ok (.iaload, 1) := by decide +kernel
theorem dX5_hearThing_93 : decode cX5_hearThing 93 = .ok (.putfield 96, 3) := by decide +kernel
theorem dX5_hearThing_96 : decode cX5_hearThing 96 = .ok (.aload_n 2, 1) := by decide +kernel
theorem dX5_hearThing_97 : decode cX5_hearThing 97 = .ok (.aload_n 1, 1) := by decide +kernel
theorem dX5_hearThing_98 : decode cX5_hearThing 98 = .ok (.iconst 4, 1) := by decide +kernel
theorem dX5_hearThing_99 : decode cX5_hearThing 99 = .ok (.iaload, 1) := by decide +kernel
theorem dX5_hearThing_100 : decode cX5_hearThing 100 = .ok (.putfield 124, 3) := by decide +kernel
theorem dX5_hearThing_103 : decode cX5_hearThing 103 = .ok (.aload_n 2, 1) := by decide +kernel
end
section
theorem dX5_hearThing_104 : decode cX5_hearThing 104 = .ok (.aload_n 1, 1) := by decide +kernel
theorem dX5_hearThing_105 : decode cX5_hearThing 105 = .ok (.iconst 5, 1) := by decide +kernel
theorem dX5_hearThing_106 : decode cX5_hearThing 106 = .ok (.iaload, 1) := by decide +kernel
theorem dX5_hearThing_107 : decode cX5_hearThing 107 = .ok (.putfield 127, 3) := by decide +kernel
theorem dX5_hearThing_110 : decode cX5_hearThing 110 = .ok (.aload_n 2, 1) := by decide +kernel
theorem dX5_hearThing_111 : decode cX5_hearThing 111 = .ok (.aload_n 1, 1) := by decide +kernel
theorem dX5_hearThing_112 : decode cX5_hearThing 112 = .ok (.bipush 6, 2) := by decide +kernel
theorem dX5_hearThing_114 : decode cX5_hearThing 114 = .ok (.iaload, 1) := by decide +kernel
theorem dX5_hearThing_115 : decode cX5_hearThing 115 = .ok (.putfield 130, 3) := by decide +kernel
theorem dX5_hearThing_118 : decode cX5_hearThing 118 = .ok (.aload_n 2, 1) := by decide +kernel
theorem dX5_hearThing_119 : decode cX5_hearThing 119 = .ok (.aload_n 2, 1) := by decide +kernel
theorem dX5_hearThing_120 : decode cX5_hearThing 120 = .ok (.getfield 95, 3) := by decide +kernel
theorem dX5_hearThing_123 : decode cX5_hearThing 123 = .ok (.putfield 97, 3) := by decide +kernel
theorem dX5_hearThing_126 : decode cX5_hearThing 126 = .ok (.aload_n 2, 1) := by decide +kernel
theorem dX5_hearThing_127 : decode cX5_hearThing 127 = .ok (.iconst 0, 1) := by decide +kernel
theorem dX5_hearThing_128 : decode cX5_hearThing 128 = .ok (.putfield 133, 3) := by decide +kernel
theorem dX5_hearThing_131 : decode cX5_hearThing 131 = .ok (.aload_n 2, 1) := by decide +kernel
theorem dX5_hearThing_132 : decode cX5_hearThing 132 = .ok (.bipush (-9), 2) := by decide +kernel
theorem dX5_hearThing_134 : decode cX5_hearThing 134 = .ok (.putfield 136, 3) := by decide +kernel
theorem dX5_hearThing_137 : decode cX5_hearThing 137 = .ok (.aload_n 0, 1) := by decide +kernel
theorem dX5_hearThing_138 : decode cX5_hearThing 138 = .ok (.dup, 1) := by decide +kernel
theorem dX5_hearThing_139 : decode cX5_hearThing 139 = .ok (.getfield 55, 3) := by decide +kernel
theorem dX5_hearThing_142 : decode cX5_hearThing 142 = .ok (.iconst 1, 1) := by decide +kernel
theorem dX5_hearThing_143 : decode cX5_hearThing 143 = .ok (.iadd, 1) := by decide +kernel
theorem dX5_hearThing_144 : decode cX5_hearThing 144 = .ok (.putfield 55, 3) := by decide +kernel
theorem dX5_hearThing_147 : decode cX5_hearThing 147 = .ok (.iconst 1, 1) := by decide +kernel
theorem dX5_hearThing_148 : decode cX5_hearThing 148 = .ok (.ireturn, 1) := by decide +kernel
theorem dX5_measure_0 : decode cX5_measure 0 = .ok (.iconst 0, 1) := by decide +kernel
theorem dX5_measure_1 : decode cX5_measure 1 = .ok (.istore_n 1, 1) := by decide +kernel
theorem dX5_measure_2 : decode cX5_measure 2 = .ok (.iload_n 1, 1) := by decide +kernel
theorem dX5_measure_3 : decode cX5_measure 3 = .ok (.aload_n 0, 1) := by decide +kernel
theorem dX5_measure_4 : decode cX5_measure 4 = .ok (.getfield 27, 3) := by decide +kernel
theorem dX5_measure_7 : decode cX5_measure 7 = .ok (.arraylength, 1) := by decide +kernel
theorem dX5_measure_8 : decode cX5_measure 8 = .ok (.if_icmp .ge 52, 3) := by decide +kernel
theorem dX5_measure_11 : decode cX5_measure 11 = .ok (.iload_n 1, 1) := by decide +kernel
theorem dX5_measure_12 : decode cX5_measure 12 = .ok (.bipush 7, 2) := by decide +kernel
theorem dX5_measure_14 : decode cX5_measure 14 = .ok (.idiv, 1) := by decide +kernel
theorem dX5_measure_15 : decode cX5_measure 15 = .ok (.iload_n 1, 1) := by decide +kernel
theorem dX5_measure_16 : decode cX5_measure 16 = .ok (.bipush 7, 2) := by decide +kernel
theorem dX5_measure_18 : decode cX5_measure 18 = .ok (.irem, 1) := by decide +kernel
theorem dX5_measure_19 : decode cX5_measure 19 = .ok (.if_icmp .ne 7, 3) := by decide +kernel
theorem dX5_measure_22 : decode cX5_measure 22 = .ok (.iconst 0, 1) := by decide +kernel
theorem dX5_measure_23 : decode cX5_measure 23 = .ok (.goto 5, 3) := by decide +kernel
theorem dX5_measure_26 : decode cX5_measure 26 = .ok (.ldc 139, 2) := by decide +kernel
theorem dX5_measure_28 : decode cX5_measure 28 = .ok (.istore_n 2, 1) := by decide +kernel
theorem dX5_measure_29 : decode cX5_measure 29 = .ok (.aload_n 0, 1) := by decide +kernel
theorem dX5_measure_30 : decode cX5_measure 30 = .ok (.getfield 27, 3) := by decide +kernel
theorem dX5_measure_33 : decode cX5_measure 33 = .ok (.iload_n 1, 1) := by decide +kernel
theorem dX5_measure_34 : decode cX5_measure 34 = .ok (.aload_n 0, 1) := by decide +kernel
theorem dX5_measure_35 : decode cX5_measure 35 = .ok (.getfield 23, 3) := by decide +kernel
theorem dX5_measure_38 : decode cX5_measure 38 = .ok (.iload_n 1, 1) := by decide +kernel
theorem dX5_measure_39 : decode cX5_measure 39 = .ok (.iaload, 1) := by decide +kernel
theorem dX5_measure_40 : decode cX5_measure 40 = .ok (.ifCond .le 12, 3) := by decide +kernel
theorem dX5_measure_43 : decode cX5_measure 43 = .ok (.aload_n 0, 1) := by decide +kernel
theorem dX5_measure_44 : decode cX5_measure 44 = .ok (.getfield 23, 3) := by decide +kernel
theorem dX5_measure_47 : decode cX5_measure 47 = .ok (.iload_n 1, 1) := by decide +kernel
theorem dX5_measure_48 : decode cX5_measure 48 = .ok (.iaload, 1) := by decide +kernel
theorem dX5_measure_49 : decode cX5_measure 49 = .ok (.goto 4, 3) := by decide +kernel
theorem dX5_measure_52 : decode cX5_measure 52 = .ok (.iload_n 2, 1) := by decide +kernel
theorem dX5_measure_53 : decode cX5_measure 53 = .ok (.iastore, 1) := by decide +kernel
theorem dX5_measure_54 : decode cX5_measure 54 = .ok (.iinc 1 1, 3) := by decide +kernel
theorem dX5_measure_57 : decode cX5_measure 57 = .ok (.goto (-55), 3) := by decide +kernel
theorem dX5_measure_60 : decode cX5_measure 60 = .ok (.iconst 0, 1) := by decide +kernel
theorem dX5_measure_61 : decode cX5_measure 61 = .ok (.istore_n 1, 1) := by decide +kernel
theorem dX5_measure_62 : decode cX5_measure 62 = .ok (.iload_n 1, 1) := by decide +kernel
theorem dX5_measure_63 : decode cX5_measure 63 = .ok (.bipush 7, 2) := by decide +kernel
theorem dX5_measure_65 : decode cX5_measure 65 = .ok (.if_icmp .ge 76, 3) := by decide +kernel
theorem dX5_measure_68 : decode cX5_measure 68 = .ok (.iconst 0, 1) := by decide +kernel
theorem dX5_measure_69 : decode cX5_measure 69 = .ok (.istore_n 2, 1) := by decide +kernel
theorem dX5_measure_70 : decode cX5_measure 70 = .ok (.iload_n 2, 1) := by decide +kernel
theorem dX5_measure_71 : decode cX5_measure 71 = .ok (.aload_n 0, 1) := by decide +kernel
theorem dX5_measure_72 : decode cX5_measure 72 = .ok (.getfield 27, 3) := by decide +kernel
theorem dX5_measure_75 : decode cX5_measure 75 = .ok (.arraylength, 1) := by decide +kernel
theorem dX5_measure_76 : decode cX5_measure 76 = .ok (.if_icmp .ge 59, 3) := by decide +kernel
theorem dX5_measure_79 : decode cX5_measure 79 = .ok (.aload_n 0, 1) := by decide +kernel
theorem dX5_measure_80 : decode cX5_measure 80 = .ok (.getfield 27, 3) := by decide +kernel
theorem dX5_measure_83 : decode cX5_measure 83 = .ok (.iload_n 2, 1) := by decide +kernel
theorem dX5_measure_84 : decode cX5_measure 84 = .ok (.bipush 7, 2) := by decide +kernel
theorem dX5_measure_86 : decode cX5_measure 86 = .ok (.idiv, 1) := by decide +kernel
theorem dX5_measure_87 : decode cX5_measure 87 = .ok (.bipush 7, 2) := by decide +kernel
theorem dX5_measure_89 : decode cX5_measure 89 = .ok (.imul, 1) := by decide +kernel
theorem dX5_measure_90 : decode cX5_measure 90 = .ok (.iload_n 1, 1) := by decide +kernel
theorem dX5_measure_91 : decode cX5_measure 91 = .ok (.iadd, 1) := by decide +kernel
theorem dX5_measure_92 : decode cX5_measure 92 = .ok (.iaload, 1) := by decide +kernel
theorem dX5_measure_93 : decode cX5_measure 93 = .ok (.istore_n 3, 1) := by decide +kernel
theorem dX5_measure_94 : decode cX5_measure 94 = .ok (.aload_n 0, 1) := by decide +kernel
theorem dX5_measure_95 : decode cX5_measure 95 = .ok (.getfield 27, 3) := by decide +kernel
theorem dX5_measure_98 : decode cX5_measure 98 = .ok (.iload_n 1, 1) := by decide +kernel
theorem dX5_measure_99 : decode cX5_measure 99 = .ok (.bipush 7, 2) := by decide +kernel
theorem dX5_measure_101 : decode cX5_measure 101 = .ok (.imul, 1) := by decide +kernel
theorem dX5_measure_102 : decode cX5_measure 102 = .ok (.iload_n 2, 1) := by decide +kernel
theorem dX5_measure_103 : decode cX5_measure 103 = .ok (.bipush 7, 2) := by decide +kernel
theorem dX5_measure_105 : decode cX5_measure 105 = .ok (.irem, 1) := by decide +kernel
theorem dX5_measure_106 : decode cX5_measure 106 = .ok (.iadd, 1) := by decide +kernel
theorem dX5_measure_107 : decode cX5_measure 107 = .ok (.iaload, 1) := by decide +kernel
theorem dX5_measure_108 : decode cX5_measure 108 = .ok (.istore 4, 2) := by decide +kernel
theorem dX5_measure_110 : decode cX5_measure 110 = .ok (.aload_n 0, 1) := by decide +kernel
theorem dX5_measure_111 : decode cX5_measure 111 = .ok (.getfield 27, 3) := by decide +kernel
theorem dX5_measure_114 : decode cX5_measure 114 = .ok (.iload_n 2, 1) := by decide +kernel
theorem dX5_measure_115 : decode cX5_measure 115 = .ok (.aload_n 0, 1) := by decide +kernel
theorem dX5_measure_116 : decode cX5_measure 116 = .ok (.getfield 27, 3) := by decide +kernel
theorem dX5_measure_119 : decode cX5_measure 119 = .ok (.iload_n 2, 1) := by decide +kernel
theorem dX5_measure_120 : decode cX5_measure 120 = .ok (.iaload, 1) := by decide +kernel
theorem dX5_measure_121 : decode cX5_measure 121 = .ok (.iload_n 3, 1) := by decide +kernel
theorem dX5_measure_122 : decode cX5_measure 122 = .ok (.iload 4, 2) := by decide +kernel
theorem dX5_measure_124 : decode cX5_measure 124 = .ok (.iadd, 1) := by decide +kernel
theorem dX5_measure_125 : decode cX5_measure 125 = .ok (.invokestatic 140, 3) := by decide +kernel
theorem dX5_measure_128 : decode cX5_measure 128 = .ok (.iastore, 1) := by decide +kernel
theorem dX5_measure_129 : decode cX5_measure 129 = .ok (.iinc 2 1, 3) := by decide +kernel
theorem dX5_measure_132 : decode cX5_measure 132 = .ok (.goto (-62), 3) := by decide +kernel
theorem dX5_measure_135 : decode cX5_measure 135 = .ok (.iinc 1 1, 3) := by decide +kernel
theorem dX5_measure_138 : decode cX5_measure 138 = .ok (.goto (-76), 3) := by decide +kernel
theorem dX5_measure_141 : decode cX5_measure 141 = .ok (.return_, 1) := by decide +kernel
theorem dX5_leastBetween_0 : decode cX5_leastBetween 0 = .ok (.aload_n 0, 1) := by decide +kernel
theorem dX5_leastBetween_1 : decode cX5_leastBetween 1 = .ok (.iload_n 1, 1) := by decide +kernel
theorem dX5_leastBetween_2 : decode cX5_leastBetween 2 = .ok (.invokevirtual 100, 3) := by decide +kernel
theorem dX5_leastBetween_5 : decode cX5_leastBetween 5 = .ok (.ifCond .eq 25, 3) := by decide +kernel
theorem dX5_leastBetween_8 : decode cX5_leastBetween 8 = .ok (.aload_n 0, 1) := by decide +kernel
theorem dX5_leastBetween_9 : decode cX5_leastBetween 9 = .ok (.iload_n 2, 1) := by decide +kernel
theorem dX5_leastBetween_10 : decode cX5_leastBetween 10 = .ok (.invokevirtual 100, 3) := by decide +kernel
theorem dX5_leastBetween_13 : decode cX5_leastBetween 13 = .ok (.ifCond .eq 17, 3) := by decide +kernel
theorem dX5_leastBetween_16 : decode cX5_leastBetween 16 = .ok (.aload_n 0, 1) := by decide +kernel
theorem dX5_leastBetween_17 : decode cX5_leastBetween 17 = .ok (.getfield 27, 3) := by decide +kernel
theorem dX5_leastBetween_20 : decode cX5_leastBetween 20 = .ok (.iload_n 1, 1) := by decide +kernel
theorem dX5_leastBetween_21 : decode cX5_leastBetween 21 = .ok (.bipush 7, 2) := by decide +kernel
theorem dX5_leastBetween_23 : decode cX5_leastBetween 23 = .ok (.imul, 1) := by decide +kernel
theorem dX5_leastBetween_24 : decode cX5_leastBetween 24 = .ok (.iload_n 2, 1) := by decide +kernel
theorem dX5_leastBetween_25 : decode cX5_leastBetween 25 = .ok (.iadd, 1) := by decide +kernel
theorem dX5_leastBetween_26 : decode cX5_leastBetween 26 = .ok (.iaload, 1) := by decide +kernel
theorem dX5_leastBetween_27 : decode cX5_leastBetween 27 = .ok (.goto 5, 3) := by decide +kernel
theorem dX5_leastBetween_30 : decode cX5_leastBetween 30 = .ok (.ldc 139, 2) := by decide +kernel
theorem dX5_leastBetween_32 : decode cX5_leastBetween 32 = .ok (.ireturn, 1) := by decide +kernel
theorem dX5_wayBetween_0 : decode cX5_wayBetween 0 = .ok (.aload_n 0, 1) := by decide +kernel
theorem dX5_wayBetween_1 : decode cX5_wayBetween 1 = .ok (.iload_n 1, 1) := by decide +kernel
theorem dX5_wayBetween_2 : decode cX5_wayBetween 2 = .ok (.invokevirtual 100, 3) := by decide +kernel
theorem dX5_wayBetween_5 : decode cX5_wayBetween 5 = .ok (.ifCond .eq 25, 3) := by decide +kernel
theorem dX5_wayBetween_8 : decode cX5_wayBetween 8 = .ok (.aload_n 0, 1) := by decide +kernel
theorem dX5_wayBetween_9 : decode cX5_wayBetween 9 = .ok (.iload_n 2, 1) := by decide +kernel
theorem dX5_wayBetween_10 : decode cX5_wayBetween 10 = .ok (.invokevirtual 100, 3) := by decide +kernel
theorem dX5_wayBetween_13 : decode cX5_wayBetween 13 = .ok (.ifCond .eq 17, 3) := by decide +kernel
theorem dX5_wayBetween_16 : decode cX5_wayBetween 16 = .ok (.aload_n 0, 1) := by decide +kernel
theorem dX5_wayBetween_17 : decode cX5_wayBetween 17 = .ok (.getfield 23, 3) := by decide +kernel
theorem dX5_wayBetween_20 : decode cX5_wayBetween 20 = .ok (.iload_n 1, 1) := by decide +kernel
theorem dX5_wayBetween_21 : decode cX5_wayBetween 21 = .ok (.bipush 7, 2) := by decide +kernel
theorem dX5_wayBetween_23 : decode cX5_wayBetween 23 = .ok (.imul, 1) := by decide +kernel
theorem dX5_wayBetween_24 : decode cX5_wayBetween 24 = .ok (.iload_n 2, 1) := by decide +kernel
theorem dX5_wayBetween_25 : decode cX5_wayBetween 25 = .ok (.iadd, 1) := by decide +kernel
theorem dX5_wayBetween_26 : decode cX5_wayBetween 26 = .ok (.iaload, 1) := by decide +kernel
theorem dX5_wayBetween_27 : decode cX5_wayBetween 27 = .ok (.goto 4, 3) := by decide +kernel
theorem dX5_wayBetween_30 : decode cX5_wayBetween 30 = .ok (.iconst 0, 1) := by decide +kernel
theorem dX5_wayBetween_31 : decode cX5_wayBetween 31 = .ok (.ireturn, 1) := by decide +kernel
theorem dX5_lawLets_0 : decode cX5_lawLets 0 = .ok (.iload_n 1, 1) := by decide +kernel
theorem dX5_lawLets_1 : decode cX5_lawLets 1 = .ok (.iconst 3, 1) := by decide +kernel
theorem dX5_lawLets_2 : decode cX5_lawLets 2 = .ok (.if_icmp .eq 16, 3) := by decide +kernel
theorem dX5_lawLets_5 : decode cX5_lawLets 5 = .ok (.iload_n 1, 1) := by decide +kernel
theorem dX5_lawLets_6 : decode cX5_lawLets 6 = .ok (.iconst 4, 1) := by decide +kernel
theorem dX5_lawLets_7 : decode cX5_lawLets 7 = .ok (.if_icmp .ne 13, 3) := by decide +kernel
theorem dX5_lawLets_10 : decode cX5_lawLets 10 = .ok (.iload 4, 2) := by decide +kernel
theorem dX5_lawLets_12 : decode cX5_lawLets 12 = .ok (.sipush 720, 3) := by decide +kernel
theorem dX5_lawLets_15 : decode cX5_lawLets 15 = .ok (.if_icmp .lt 5, 3) := by decide +kernel
theorem dX5_lawLets_18 : decode cX5_lawLets 18 = .ok (.iconst 1, 1) := by decide +kernel
theorem dX5_lawLets_19 : decode cX5_lawLets 19 = .ok (.ireturn, 1) := by decide +kernel
theorem dX5_lawLets_20 : decode cX5_lawLets 20 = .ok (.aload_n 0, 1) := by decide +kernel
theorem dX5_lawLets_21 : decode cX5_lawLets 21 = .ok (.getfield 19, 3) := by decide +kernel
theorem dX5_lawLets_24 : decode cX5_lawLets 24 = .ok (.iload_n 3, 1) := by decide +kernel
theorem dX5_lawLets_25 : decode cX5_lawLets 25 = .ok (.aaload, 1) := by decide +kernel
theorem dX5_lawLets_26 : decode cX5_lawLets 26 = .ok (.astore 6, 2) := by decide +kernel
theorem dX5_lawLets_28 : decode cX5_lawLets 28 = .ok (.iload_n 2, 1) := by decide +kernel
theorem dX5_lawLets_29 : decode cX5_lawLets 29 = .ok (.aload 6, 2) := by decide +kernel
theorem dX5_lawLets_31 : decode cX5_lawLets 31 = .ok (.getfield 118, 3) := by decide +kernel
theorem dX5_lawLets_34 : decode cX5_lawLets 34 = .ok (.if_icmp .eq 12, 3) := by decide +kernel
theorem dX5_lawLets_37 : decode cX5_lawLets 37 = .ok (.iload_n 2, 1) := by decide +kernel
theorem dX5_lawLets_38 : decode cX5_lawLets 38 = .ok (.aload 6, 2) := by decide +kernel
theorem dX5_lawLets_40 : decode cX5_lawLets 40 = .ok (.getfield 121, 3) := by decide +kernel
theorem dX5_lawLets_43 : decode cX5_lawLets 43 = .ok (.if_icmp .ne 36, 3) := by decide +kernel
theorem dX5_lawLets_46 : decode cX5_lawLets 46 = .ok (.iload_n 1, 1) := by decide +kernel
theorem dX5_lawLets_47 : decode cX5_lawLets 47 = .ok (.iconst 2, 1) := by decide +kernel
theorem dX5_lawLets_48 : decode cX5_lawLets 48 = .ok (.if_icmp .ne 29, 3) := by decide +kernel
theorem dX5_lawLets_51 : decode cX5_lawLets 51 = .ok (.iload 5, 2) := by decide +kernel
theorem dX5_lawLets_53 : decode cX5_lawLets 53 = .ok (.ifCond .lt 24, 3) := by decide +kernel
theorem dX5_lawLets_56 : decode cX5_lawLets 56 = .ok (.iload 4, 2) := by decide +kernel
theorem dX5_lawLets_58 : decode cX5_lawLets 58 = .ok (.iload 5, 2) := by decide +kernel
theorem dX5_lawLets_60 : decode cX5_lawLets 60 = .ok (.if_icmp .lt 17, 3) := by decide +kernel
theorem dX5_lawLets_63 : decode cX5_lawLets 63 = .ok (.iload 4, 2) := by decide +kernel
theorem dX5_lawLets_65 : decode cX5_lawLets 65 = .ok (.iload 5, 2) := by decide +kernel
theorem dX5_lawLets_67 : decode cX5_lawLets 67 = .ok (.isub, 1) := by decide +kernel
theorem dX5_lawLets_68 : decode cX5_lawLets 68 = .ok (.bipush 60, 2) := by decide +kernel
theorem dX5_lawLets_70 : decode cX5_lawLets 70 = .ok (.if_icmp .ge 7, 3) := by decide +kernel
theorem dX5_lawLets_73 : decode cX5_lawLets 73 = .ok (.iconst 1, 1) := by decide +kernel
theorem dX5_lawLets_74 : decode cX5_lawLets 74 = .ok (.goto 4, 3) := by decide +kernel
theorem dX5_lawLets_77 : decode cX5_lawLets 77 = .ok (.iconst 0, 1) := by decide +kernel
theorem dX5_lawLets_78 : decode cX5_lawLets 78 = .ok (.ireturn, 1) := by decide +kernel
theorem dX5_lawLets_79 : decode cX5_lawLets 79 = .ok (.iload_n 1, 1) := by decide +kernel
theorem dX5_lawLets_80 : decode cX5_lawLets 80 = .ok (.iconst 1, 1) := by decide +kernel
theorem dX5_lawLets_81 : decode cX5_lawLets 81 = .ok (.if_icmp .eq 10, 3) := by decide +kernel
theorem dX5_lawLets_84 : decode cX5_lawLets 84 = .ok (.iload_n 1, 1) := by decide +kernel
theorem dX5_lawLets_85 : decode cX5_lawLets 85 = .ok (.iconst 4, 1) := by decide +kernel
theorem dX5_lawLets_86 : decode cX5_lawLets 86 = .ok (.if_icmp .eq 5, 3) := by decide +kernel
theorem dX5_lawLets_89 : decode cX5_lawLets 89 = .ok (.iconst 1, 1) := by decide +kernel
theorem dX5_lawLets_90 : decode cX5_lawLets 90 = .ok (.ireturn, 1) := by decide +kernel
theorem dX5_lawLets_91 : decode cX5_lawLets 91 = .ok (.aload_n 0, 1) := by decide +kernel
theorem dX5_lawLets_92 : decode cX5_lawLets 92 = .ok (.getfield 11, 3) := by decide +kernel
theorem dX5_lawLets_95 : decode cX5_lawLets 95 = .ok (.iload_n 2, 1) := by decide +kernel
theorem dX5_lawLets_96 : decode cX5_lawLets 96 = .ok (.aaload, 1) := by decide +kernel
theorem dX5_lawLets_97 : decode cX5_lawLets 97 = .ok (.getfield 106, 3) := by decide +kernel
theorem dX5_lawLets_100 : decode cX5_lawLets 100 = .ok (.istore 7, 2) := by decide +kernel
theorem dX5_lawLets_102 : decode cX5_lawLets 102 = .ok (.iload 7, 2) := by decide +kernel
theorem dX5_lawLets_104 : decode cX5_lawLets 104 = .ok (.ifCond .eq 39, 3) := by decide +kernel
theorem dX5_lawLets_107 : decode cX5_lawLets 107 = .ok (.iload 7, 2) := by decide +kernel
theorem dX5_lawLets_109 : decode cX5_lawLets 109 = .ok (.aload_n 0, 1) := by decide +kernel
theorem dX5_lawLets_110 : decode cX5_lawLets 110 = .ok (.getfield 11, 3) := by decide +kernel
theorem dX5_lawLets_113 : decode cX5_lawLets 113 = .ok (.aload 6, 2) := by decide +kernel
theorem dX5_lawLets_115 : decode cX5_lawLets 115 = .ok (.getfield 118, 3) := by decide +kernel
theorem dX5_lawLets_118 : decode cX5_lawLets 118 = .ok (.aaload, 1) := by decide +kernel
theorem dX5_lawLets_119 : decode cX5_lawLets 119 = .ok (.getfield 106, 3) := by decide +kernel
theorem dX5_lawLets_122 : decode cX5_lawLets 122 = .ok (.if_icmp .eq 25, 3) := by decide +kernel
theorem dX5_lawLets_125 : decode cX5_lawLets 125 = .ok (.iload 7, 2) := by decide +kernel
theorem dX5_lawLets_127 : decode cX5_lawLets 127 = .ok (.aload_n 0, 1) := by decide +kernel
theorem dX5_lawLets_128 : decode cX5_lawLets 128 = .ok (.getfield 11, 3) := by decide +kernel
theorem dX5_lawLets_131 : decode cX5_lawLets 131 = .ok (.aload 6, 2) := by decide +kernel
theorem dX5_lawLets_133 : decode cX5_lawLets 133 = .ok (.getfield 121, 3) := by decide +kernel
theorem dX5_lawLets_136 : decode cX5_lawLets 136 = .ok (.aaload, 1) := by decide +kernel
theorem dX5_lawLets_137 : decode cX5_lawLets 137 = .ok (.getfield 106, 3) := by decide +kernel
theorem dX5_lawLets_140 : decode cX5_lawLets 140 = .ok (.if_icmp .eq 7, 3) := by decide +kernel
theorem dX5_lawLets_143 : decode cX5_lawLets 143 = .ok (.iconst 1, 1) := by decide +kernel
theorem dX5_lawLets_144 : decode cX5_lawLets 144 = .ok (.goto 4, 3) := by decide +kernel
theorem dX5_lawLets_147 : decode cX5_lawLets 147 = .ok (.iconst 0, 1) := by decide +kernel
theorem dX5_lawLets_148 : decode cX5_lawLets 148 = .ok (.ireturn, 1) := by decide +kernel
theorem dX5_fits_0 : decode cX5_fits 0 = .ok (.aload_n 0, 1) := by decide +kernel
theorem dX5_fits_1 : decode cX5_fits 1 = .ok (.getfield 19, 3) := by decide +kernel
theorem dX5_fits_4 : decode cX5_fits 4 = .ok (.iload_n 2, 1) := by decide +kernel
theorem dX5_fits_5 : decode cX5_fits 5 = .ok (.aaload, 1) := by decide +kernel
theorem dX5_fits_6 : decode cX5_fits 6 = .ok (.getfield 124, 3) := by decide +kernel
theorem dX5_fits_9 : decode cX5_fits 9 = .ok (.aload_n 0, 1) := by decide +kernel
theorem dX5_fits_10 : decode cX5_fits 10 = .ok (.getfield 11, 3) := by decide +kernel
theorem dX5_fits_13 : decode cX5_fits 13 = .ok (.iload_n 1, 1) := by decide +kernel
theorem dX5_fits_14 : decode cX5_fits 14 = .ok (.aaload, 1) := by decide +kernel
theorem dX5_fits_15 : decode cX5_fits 15 = .ok (.getfield 109, 3) := by decide +kernel
theorem dX5_fits_18 : decode cX5_fits 18 = .ok (.if_icmp .gt 7, 3) := by decide +kernel
theorem dX5_fits_21 : decode cX5_fits 21 = .ok (.iconst 1, 1) := by decide +kernel
theorem dX5_fits_22 : decode cX5_fits 22 = .ok (.goto 4, 3) := by decide +kernel
theorem dX5_fits_25 : decode cX5_fits 25 = .ok (.iconst 0, 1) := by decide +kernel
theorem dX5_fits_26 : decode cX5_fits 26 = .ok (.ireturn, 1) := by decide +kernel
theorem dX5_letsCarry_0 : decode cX5_letsCarry 0 = .ok (.aload_n 0, 1) := by decide +kernel
theorem dX5_letsCarry_1 : decode cX5_letsCarry 1 = .ok (.iload_n 1, 1) := by decide +kernel
theorem dX5_letsCarry_2 : decode cX5_letsCarry 2 = .ok (.iload_n 2, 1) := by decide +kernel
theorem dX5_letsCarry_3 : decode cX5_letsCarry 3 = .ok (.invokevirtual 143, 3) := by decide +kernel
theorem dX5_letsCarry_6 : decode cX5_letsCarry 6 = .ok (.ifCond .eq 30, 3) := by decide +kernel
theorem dX5_letsCarry_9 : decode cX5_letsCarry 9 = .ok (.aload_n 0, 1) := by decide +kernel
theorem dX5_letsCarry_10 : decode cX5_letsCarry 10 = .ok (.aload_n 0, 1) := by decide +kernel
theorem dX5_letsCarry_11 : decode cX5_letsCarry 11 = .ok (.getfield 58, 3) := by decide +kernel
theorem dX5_letsCarry_14 : decode cX5_letsCarry 14 = .ok (.iload_n 1, 1) := by decide +kernel
theorem dX5_letsCarry_15 : decode cX5_letsCarry 15 = .ok (.iload_n 2, 1) := by decide +kernel
theorem dX5_letsCarry_16 : decode cX5_letsCarry 16 = .ok (.iload_n 3, 1) := by decide +kernel
theorem dX5_letsCarry_17 : decode cX5_letsCarry 17 = .ok (.aload_n 0, 1) := by decide +kernel
theorem dX5_letsCarry_18 : decode cX5_letsCarry 18 = .ok (.getfield 19, 3) := by decide +kernel
theorem dX5_letsCarry_21 : decode cX5_letsCarry 21 = .ok (.iload_n 2, 1) := by decide +kernel
theorem dX5_letsCarry_22 : decode cX5_letsCarry 22 = .ok (.aaload, 1) := by decide +kernel
theorem dX5_letsCarry_23 : decode cX5_letsCarry 23 = .ok (.getfield 136, 3) := by decide +kernel
theorem dX5_letsCarry_26 : decode cX5_letsCarry 26 = .ok (.invokevirtual 147, 3) := by decide +kernel
theorem dX5_letsCarry_29 : decode cX5_letsCarry 29 = .ok (.ifCond .eq 7, 3) := by decide +kernel
theorem dX5_letsCarry_32 : decode cX5_letsCarry 32 = .ok (.iconst 1, 1) := by decide +kernel
theorem dX5_letsCarry_33 : decode cX5_letsCarry 33 = .ok (.goto 4, 3) := by decide +kernel
theorem dX5_letsCarry_36 : decode cX5_letsCarry 36 = .ok (.iconst 0, 1) := by decide +kernel
theorem dX5_letsCarry_37 : decode cX5_letsCarry 37 = .ok (.ireturn, 1) := by decide +kernel
theorem dX5_carriedBits_0 : decode cX5_carriedBits 0 = .ok (.iconst 0, 1) := by decide +kernel
theorem dX5_carriedBits_1 : decode cX5_carriedBits 1 = .ok (.istore_n 2, 1) := by decide +kernel
theorem dX5_carriedBits_2 : decode cX5_carriedBits 2 = .ok (.iconst 0, 1) := by decide +kernel
theorem dX5_carriedBits_3 : decode cX5_carriedBits 3 = .ok (.istore_n 3, 1) := by decide +kernel
theorem dX5_carriedBits_4 : decode cX5_carriedBits 4 = .ok (.iload_n 3, 1) := by decide +kernel
theorem dX5_carriedBits_5 : decode cX5_carriedBits 5 = .ok (.aload_n 0, 1) := by decide +kernel
theorem dX5_carriedBits_6 : decode cX5_carriedBits 6 = .ok (.getfield 55, 3) := by decide +kernel
theorem dX5_carriedBits_9 : decode cX5_carriedBits 9 = .ok (.if_icmp .ge 31, 3) := by decide +kernel
theorem dX5_carriedBits_12 : decode cX5_carriedBits 12 = .ok (.aload_n 0, 1) := by decide +kernel
theorem dX5_carriedBits_13 : decode cX5_carriedBits 13 = .ok (.getfield 19, 3) := by decide +kernel
theorem dX5_carriedBits_16 : decode cX5_carriedBits 16 = .ok (.iload_n 3, 1) := by decide +kernel
theorem dX5_carriedBits_17 : decode cX5_carriedBits 17 = .ok (.aaload, 1) := by decide +kernel
theorem dX5_carriedBits_18 : decode cX5_carriedBits 18 = .ok (.getfield 97, 3) := by decide +kernel
theorem dX5_carriedBits_21 : decode cX5_carriedBits 21 = .ok (.bipush 10, 2) := by decide +kernel
theorem dX5_carriedBits_23 : decode cX5_carriedBits 23 = .ok (.iload_n 1, 1) := by decide +kernel
theorem dX5_carriedBits_24 : decode cX5_carriedBits 24 = .ok (.iadd, 1) := by decide +kernel
theorem dX5_carriedBits_25 : decode cX5_carriedBits 25 = .ok (.if_icmp .ne 9, 3) := by decide +kernel
theorem dX5_carriedBits_28 : decode cX5_carriedBits 28 = .ok (.iload_n 2, 1) := by decide +kernel
theorem dX5_carriedBits_29 : decode cX5_carriedBits 29 = .ok (.iconst 1, 1) := by decide +kernel
theorem dX5_carriedBits_30 : decode cX5_carriedBits 30 = .ok (.iload_n 3, 1) := by decide +kernel
theorem dX5_carriedBits_31 : decode cX5_carriedBits 31 = .ok (.ishl, 1) := by decide +kernel
theorem dX5_carriedBits_32 : decode cX5_carriedBits 32 = .ok (.ior, 1) := by decide +kernel
theorem dX5_carriedBits_33 : decode cX5_carriedBits 33 = .ok (.istore_n 2, 1) := by decide +kernel
theorem dX5_carriedBits_34 : decode cX5_carriedBits 34 = .ok (.iinc 3 1, 3) := by decide +kernel
theorem dX5_carriedBits_37 : decode cX5_carriedBits 37 = .ok (.goto (-33), 3) := by decide +kernel
theorem dX5_carriedBits_40 : decode cX5_carriedBits 40 = .ok (.iload_n 2, 1) := by decide +kernel
theorem dX5_carriedBits_41 : decode cX5_carriedBits 41 = .ok (.ireturn, 1) := by decide +kernel
theorem dX5_carriedThings_0 : decode cX5_carriedThings 0 = .ok (.iconst 0, 1) := by decide +kernel
theorem dX5_carriedThings_1 : decode cX5_carriedThings 1 = .ok (.istore_n 1, 1) := by decide +kernel
theorem dX5_carriedThings_2 : decode cX5_carriedThings 2 = .ok (.iconst 0, 1) := by decide +kernel
theorem dX5_carriedThings_3 : decode cX5_carriedThings 3 = .ok (.istore_n 2, 1) := by decide +kernel
theorem dX5_carriedThings_4 : decode cX5_carriedThings 4 = .ok (.iload_n 2, 1) := by decide +kernel
theorem dX5_carriedThings_5 : decode cX5_carriedThings 5 = .ok (.aload_n 0, 1) := by decide +kernel
theorem dX5_carriedThings_6 : decode cX5_carriedThings 6 = .ok (.getfield 55, 3) := by decide +kernel
theorem dX5_carriedThings_9 : decode cX5_carriedThings 9 = .ok (.if_icmp .ge 26, 3) := by decide +kernel
theorem dX5_carriedThings_12 : decode cX5_carriedThings 12 = .ok (.aload_n 0, 1) := by decide +kernel
theorem dX5_carriedThings_13 : decode cX5_carriedThings 13 = .ok (.getfield 19, 3) := by decide +kernel
theorem dX5_carriedThings_16 : decode cX5_carriedThings 16 = .ok (.iload_n 2, 1) := by decide +kernel
theorem dX5_carriedThings_17 : decode cX5_carriedThings 17 = .ok (.aaload, 1) := by decide +kernel
theorem dX5_carriedThings_18 : decode cX5_carriedThings 18 = .ok (.getfield 97, 3) := by decide +kernel
theorem dX5_carriedThings_21 : decode cX5_carriedThings 21 = .ok (.bipush 10, 2) := by decide +kernel
theorem dX5_carriedThings_23 : decode cX5_carriedThings 23 = .ok (.if_icmp .lt 6, 3) := by decide +kernel
theorem dX5_carriedThings_26 : decode cX5_carriedThings 26 = .ok (.iinc 1 1, 3) := by decide +kernel
theorem dX5_carriedThings_29 : decode cX5_carriedThings 29 = .ok (.iinc 2 1, 3) := by decide +kernel
theorem dX5_carriedThings_32 : decode cX5_carriedThings 32 = .ok (.goto (-28), 3) := by decide +kernel
theorem dX5_carriedThings_35 : decode cX5_carriedThings 35 = .ok (.iload_n 1, 1) := by decide +kernel
theorem dX5_carriedThings_36 : decode cX5_carriedThings 36 = .ok (.ireturn, 1) := by decide +kernel
theorem dX5_hasSpareRoom_0 : decode cX5_hasSpareRoom 0 = .ok (.aload_n 0, 1) := by decide +kernel
theorem dX5_hasSpareRoom_1 : decode cX5_hasSpareRoom 1 = .ok (.getfield 19, 3) := by decide +kernel
theorem dX5_hasSpareRoom_4 : decode cX5_hasSpareRoom 4 = .ok (.iload_n 2, 1) := by decide +kernel
theorem dX5_hasSpareRoom_5 : decode cX5_hasSpareRoom 5 = .ok (.aaload, 1) := by decide +kernel
theorem dX5_hasSpareRoom_6 : decode cX5_hasSpareRoom 6 = .ok (.getfield 124, 3) := by decide +kernel
theorem dX5_hasSpareRoom_9 : decode cX5_hasSpareRoom 9 = .ok (.istore_n 3, 1) := by decide +kernel
theorem dX5_hasSpareRoom_10 : decode cX5_hasSpareRoom 10 = .ok (.iconst 0, 1) := by decide +kernel
theorem dX5_hasSpareRoom_11 : decode cX5_hasSpareRoom 11 = .ok (.istore 4, 2) := by decide +kernel
theorem dX5_hasSpareRoom_13 : decode cX5_hasSpareRoom 13 = .ok (.iload 4, 2) := by decide +kernel
theorem dX5_hasSpareRoom_15 : decode cX5_hasSpareRoom 15 = .ok (.aload_n 0, 1) := by decide +kernel
theorem dX5_hasSpareRoom_16 : decode cX5_hasSpareRoom 16 = .ok (.getfield 55, 3) := by decide +kernel
theorem dX5_hasSpareRoom_19 : decode cX5_hasSpareRoom 19 = .ok (.if_icmp .ge 39, 3) := by decide +kernel
theorem dX5_hasSpareRoom_22 : decode cX5_hasSpareRoom 22 = .ok (.aload_n 0, 1) := by decide +kernel
theorem dX5_hasSpareRoom_23 : decode cX5_hasSpareRoom 23 = .ok (.getfield 19, 3) := by decide +kernel
theorem dX5_hasSpareRoom_26 : decode cX5_hasSpareRoom 26 = .ok (.iload 4, 2) := by decide +kernel
theorem dX5_hasSpareRoom_28 : decode cX5_hasSpareRoom 28 = .ok (.aaload, 1) := by decide +kernel
theorem dX5_hasSpareRoom_29 : decode cX5_hasSpareRoom 29 = .ok (.getfield 97, 3) := by decide +kernel
theorem dX5_hasSpareRoom_32 : decode cX5_hasSpareRoom 32 = .ok (.bipush 10, 2) := by decide +kernel
theorem dX5_hasSpareRoom_34 : decode cX5_hasSpareRoom 34 = .ok (.iload_n 1, 1) := by decide +kernel
theorem dX5_hasSpareRoom_35 : decode cX5_hasSpareRoom 35 = .ok (.iadd, 1) := by decide +kernel
theorem dX5_hasSpareRoom_36 : decode cX5_hasSpareRoom 36 = .ok (.if_icmp .ne 16, 3) := by decide +kernel
theorem dX5_hasSpareRoom_39 : decode cX5_hasSpareRoom 39 = .ok (.iload_n 3, 1) := by decide +kernel
theorem dX5_hasSpareRoom_40 : decode cX5_hasSpareRoom 40 = .ok (.aload_n 0, 1) := by decide +kernel
theorem dX5_hasSpareRoom_41 : decode cX5_hasSpareRoom 41 = .ok (.getfield 19, 3) := by decide +kernel
theorem dX5_hasSpareRoom_44 : decode cX5_hasSpareRoom 44 = .ok (.iload 4, 2) := by decide +kernel
theorem dX5_hasSpareRoom_46 : decode cX5_hasSpareRoom 46 = .ok (.aaload, 1) := by decide +kernel
theorem dX5_hasSpareRoom_47 : decode cX5_hasSpareRoom 47 = .ok (.getfield 124, 3) := by decide +kernel
theorem dX5_hasSpareRoom_50 : decode cX5_hasSpareRoom 50 = .ok (.iadd, 1) := by decide +kernel
theorem dX5_hasSpareRoom_51 : decode cX5_hasSpareRoom 51 = .ok (.istore_n 3, 1) := by decide +kernel
theorem dX5_hasSpareRoom_52 : decode cX5_hasSpareRoom 52 = .ok (.iinc 4 1, 3) := by decide +kernel
theorem dX5_hasSpareRoom_55 : decode cX5_hasSpareRoom 55 = .ok (.goto (-42), 3) := by decide +kernel
theorem dX5_hasSpareRoom_58 : decode cX5_hasSpareRoom 58 = .ok (.iload_n 3, 1) := by decide +kernel
theorem dX5_hasSpareRoom_59 : decode cX5_hasSpareRoom 59 = .ok (.aload_n 0, 1) := by decide +kernel
theorem dX5_hasSpareRoom_60 : decode cX5_hasSpareRoom 60 = .ok (.getfield 11, 3) := by decide +kernel
theorem dX5_hasSpareRoom_63 : decode cX5_hasSpareRoom 63 = .ok (.iload_n 1, 1) := by decide +kernel
theorem dX5_hasSpareRoom_64 : decode cX5_hasSpareRoom 64 = .ok (.aaload, 1) := by decide +kernel
theorem dX5_hasSpareRoom_65 : decode cX5_hasSpareRoom 65 = .ok (.getfield 109, 3) := by decide +kernel
theorem dX5_hasSpareRoom_68 : decode cX5_hasSpareRoom 68 = .ok (.if_icmp .gt 7, 3) := by decide +kernel
theorem dX5_hasSpareRoom_71 : decode cX5_hasSpareRoom 71 = .ok (.iconst 1, 1) := by decide +kernel
theorem dX5_hasSpareRoom_72 : decode cX5_hasSpareRoom 72 = .ok (.goto 4, 3) := by decide +kernel
theorem dX5_hasSpareRoom_75 : decode cX5_hasSpareRoom 75 = .ok (.iconst 0, 1) := by decide +kernel
theorem dX5_hasSpareRoom_76 : decode cX5_hasSpareRoom 76 = .ok (.ireturn, 1) := by decide +kernel
theorem dX5_load_0 : decode cX5_load 0 = .ok (.aload_n 0, 1) := by decide +kernel
theorem dX5_load_1 : decode cX5_load 1 = .ok (.getfield 19, 3) := by decide +kernel
theorem dX5_load_4 : decode cX5_load 4 = .ok (.iload_n 2, 1) := by decide +kernel
theorem dX5_load_5 : decode cX5_load 5 = .ok (.aaload, 1) := by decide +kernel
theorem dX5_load_6 : decode cX5_load 6 = .ok (.bipush 10, 2) := by decide +kernel
theorem dX5_load_8 : decode cX5_load 8 = .ok (.iload_n 1, 1) := by decide +kernel
theorem dX5_load_9 : decode cX5_load 9 = .ok (.iadd, 1) := by decide +kernel
theorem dX5_load_10 : decode cX5_load 10 = .ok (.putfield 97, 3) := by decide +kernel
theorem dX5_load_13 : decode cX5_load 13 = .ok (.aload_n 0, 1) := by decide +kernel
theorem dX5_load_14 : decode cX5_load 14 = .ok (.getfield 19, 3) := by decide +kernel
theorem dX5_load_17 : decode cX5_load 17 = .ok (.iload_n 2, 1) := by decide +kernel
theorem dX5_load_18 : decode cX5_load 18 = .ok (.aaload, 1) := by decide +kernel
theorem dX5_load_19 : decode cX5_load 19 = .ok (.iconst 0, 1) := by decide +kernel
theorem dX5_load_20 : decode cX5_load 20 = .ok (.putfield 133, 3) := by decide +kernel
theorem dX5_load_23 : decode cX5_load 23 = .ok (.return_, 1) := by decide +kernel
theorem dX5_takeUp_0 : decode cX5_takeUp 0 = .ok (.aload_n 0, 1) := by decide +kernel
theorem dX5_takeUp_1 : decode cX5_takeUp 1 = .ok (.getfield 11, 3) := by decide +kernel
theorem dX5_takeUp_4 : decode cX5_takeUp 4 = .ok (.iload_n 1, 1) := by decide +kernel
theorem dX5_takeUp_5 : decode cX5_takeUp 5 = .ok (.aaload, 1) := by decide +kernel
theorem dX5_takeUp_6 : decode cX5_takeUp 6 = .ok (.astore_n 3, 1) := by decide +kernel
theorem dX5_takeUp_7 : decode cX5_takeUp 7 = .ok (.aload_n 0, 1) := by decide +kernel
theorem dX5_takeUp_8 : decode cX5_takeUp 8 = .ok (.getfield 19, 3) := by decide +kernel
theorem dX5_takeUp_11 : decode cX5_takeUp 11 = .ok (.iload_n 2, 1) := by decide +kernel
theorem dX5_takeUp_12 : decode cX5_takeUp 12 = .ok (.aaload, 1) := by decide +kernel
theorem dX5_takeUp_13 : decode cX5_takeUp 13 = .ok (.astore 4, 2) := by decide +kernel
theorem dX5_takeUp_15 : decode cX5_takeUp 15 = .ok (.aload_n 3, 1) := by decide +kernel
theorem dX5_takeUp_16 : decode cX5_takeUp 16 = .ok (.getfield 112, 3) := by decide +kernel
theorem dX5_takeUp_19 : decode cX5_takeUp 19 = .ok (.aload 4, 2) := by decide +kernel
theorem dX5_takeUp_21 : decode cX5_takeUp 21 = .ok (.getfield 133, 3) := by decide +kernel
theorem dX5_takeUp_24 : decode cX5_takeUp 24 = .ok (.invokestatic 80, 3) := by decide +kernel
theorem dX5_takeUp_27 : decode cX5_takeUp 27 = .ok (.istore 5, 2) := by decide +kernel
theorem dX5_takeUp_29 : decode cX5_takeUp 29 = .ok (.aload 4, 2) := by decide +kernel
theorem dX5_takeUp_31 : decode cX5_takeUp 31 = .ok (.getfield 97, 3) := by decide +kernel
theorem dX5_takeUp_34 : decode cX5_takeUp 34 = .ok (.aload_n 3, 1) := by decide +kernel
theorem dX5_takeUp_35 : decode cX5_takeUp 35 = .ok (.getfield 86, 3) := by decide +kernel
theorem dX5_takeUp_38 : decode cX5_takeUp 38 = .ok (.if_icmp .ne 23, 3) := by decide +kernel
theorem dX5_takeUp_41 : decode cX5_takeUp 41 = .ok (.aload_n 0, 1) := by decide +kernel
theorem dX5_takeUp_42 : decode cX5_takeUp 42 = .ok (.iload_n 1, 1) := by decide +kernel
theorem dX5_takeUp_43 : decode cX5_takeUp 43 = .ok (.iload_n 2, 1) := by decide +kernel
theorem dX5_takeUp_44 : decode cX5_takeUp 44 = .ok (.iload 5, 2) := by decide +kernel
theorem dX5_takeUp_46 : decode cX5_takeUp 46 = .ok (.invokevirtual 151, 3) := by decide +kernel
theorem dX5_takeUp_49 : decode cX5_takeUp 49 = .ok (.ifCond .eq 12, 3) := by decide +kernel
theorem dX5_takeUp_52 : decode cX5_takeUp 52 = .ok (.aload_n 0, 1) := by decide +kernel
theorem dX5_takeUp_53 : decode cX5_takeUp 53 = .ok (.iload_n 1, 1) := by decide +kernel
theorem dX5_takeUp_54 : decode cX5_takeUp 54 = .ok (.iload_n 2, 1) := by decide +kernel
theorem dX5_takeUp_55 : decode cX5_takeUp 55 = .ok (.invokevirtual 154, 3) := by decide +kernel
theorem dX5_takeUp_58 : decode cX5_takeUp 58 = .ok (.ifCond .ne 5, 3) := by decide +kernel
theorem dX5_takeUp_61 : decode cX5_takeUp 61 = .ok (.iconst 0, 1) := by decide +kernel
theorem dX5_takeUp_62 : decode cX5_takeUp 62 = .ok (.ireturn, 1) := by decide +kernel
theorem dX5_takeUp_63 : decode cX5_takeUp 63 = .ok (.aload_n 3, 1) := by decide +kernel
theorem dX5_takeUp_64 : decode cX5_takeUp 64 = .ok (.iload 5, 2) := by decide +kernel
theorem dX5_takeUp_66 : decode cX5_takeUp 66 = .ok (.putfield 112, 3) := by decide +kernel
theorem dX5_takeUp_69 : decode cX5_takeUp 69 = .ok (.aload_n 0, 1) := by decide +kernel
theorem dX5_takeUp_70 : decode cX5_takeUp 70 = .ok (.iload_n 1, 1) := by decide +kernel
theorem dX5_takeUp_71 : decode cX5_takeUp 71 = .ok (.iload_n 2, 1) := by decide +kernel
theorem dX5_takeUp_72 : decode cX5_takeUp 72 = .ok (.invokevirtual 157, 3) := by decide +kernel
theorem dX5_takeUp_75 : decode cX5_takeUp 75 = .ok (.iconst 1, 1) := by decide +kernel
theorem dX5_takeUp_76 : decode cX5_takeUp 76 = .ok (.ireturn, 1) := by decide +kernel
theorem dX5_walkTo_0 : decode cX5_walkTo 0 = .ok (.aload_n 0, 1) := by decide +kernel
theorem dX5_walkTo_1 : decode cX5_walkTo 1 = .ok (.getfield 11, 3) := by decide +kernel
theorem dX5_walkTo_4 : decode cX5_walkTo 4 = .ok (.iload_n 1, 1) := by decide +kernel
theorem dX5_walkTo_5 : decode cX5_walkTo 5 = .ok (.aaload, 1) := by decide +kernel
theorem dX5_walkTo_6 : decode cX5_walkTo 6 = .ok (.astore_n 3, 1) := by decide +kernel
theorem dX5_walkTo_7 : decode cX5_walkTo 7 = .ok (.aload_n 0, 1) := by decide +kernel
theorem dX5_walkTo_8 : decode cX5_walkTo 8 = .ok (.aload_n 3, 1) := by decide +kernel
theorem dX5_walkTo_9 : decode cX5_walkTo 9 = .ok (.getfield 86, 3) := by decide +kernel
theorem dX5_walkTo_12 : decode cX5_walkTo 12 = .ok (.iload_n 2, 1) := by decide +kernel
theorem dX5_walkTo_13 : decode cX5_walkTo 13 = .ok (.invokevirtual 161, 3) := by decide +kernel
theorem dX5_walkTo_16 : decode cX5_walkTo 16 = .ok (.istore 4, 2) := by decide +kernel
theorem dX5_walkTo_18 : decode cX5_walkTo 18 = .ok (.iload 4, 2) := by decide +kernel
theorem dX5_walkTo_20 : decode cX5_walkTo 20 = .ok (.ldc 139, 2) := by decide +kernel
theorem dX5_walkTo_22 : decode cX5_walkTo 22 = .ok (.if_icmp .lt 5, 3) := by decide +kernel
theorem dX5_walkTo_25 : decode cX5_walkTo 25 = .ok (.iconst 0, 1) := by decide +kernel
theorem dX5_walkTo_26 : decode cX5_walkTo 26 = .ok (.ireturn, 1) := by decide +kernel
theorem dX5_walkTo_27 : decode cX5_walkTo 27 = .ok (.iconst 0, 1) := by decide +kernel
theorem dX5_walkTo_28 : decode cX5_walkTo 28 = .ok (.istore 5, 2) := by decide +kernel
theorem dX5_walkTo_30 : decode cX5_walkTo 30 = .ok (.iload 5, 2) := by decide +kernel
theorem dX5_walkTo_32 : decode cX5_walkTo 32 = .ok (.aload_n 0, 1) := by decide +kernel
theorem dX5_walkTo_33 : decode cX5_walkTo 33 = .ok (.getfield 55, 3) := by decide +kernel
theorem dX5_walkTo_36 : decode cX5_walkTo 36 = .ok (.if_icmp .ge 42, 3) := by decide +kernel
theorem dX5_walkTo_39 : decode cX5_walkTo 39 = .ok (.aload_n 0, 1) := by decide +kernel
theorem dX5_walkTo_40 : decode cX5_walkTo 40 = .ok (.getfield 19, 3) := by decide +kernel
theorem dX5_walkTo_43 : decode cX5_walkTo 43 = .ok (.iload 5, 2) := by decide +kernel
theorem dX5_walkTo_45 : decode cX5_walkTo 45 = .ok (.aaload, 1) := by decide +kernel
theorem dX5_walkTo_46 : decode cX5_walkTo 46 = .ok (.getfield 97, 3) := by decide +kernel
theorem dX5_walkTo_49 : decode cX5_walkTo 49 = .ok (.bipush 10, 2) := by decide +kernel
theorem dX5_walkTo_51 : decode cX5_walkTo 51 = .ok (.iload_n 1, 1) := by decide +kernel
theorem dX5_walkTo_52 : decode cX5_walkTo 52 = .ok (.iadd, 1) := by decide +kernel
theorem dX5_walkTo_53 : decode cX5_walkTo 53 = .ok (.if_icmp .ne 19, 3) := by decide +kernel
theorem dX5_walkTo_56 : decode cX5_walkTo 56 = .ok (.aload_n 0, 1) := by decide +kernel
theorem dX5_walkTo_57 : decode cX5_walkTo 57 = .ok (.iload_n 1, 1) := by decide +kernel
theorem dX5_walkTo_58 : decode cX5_walkTo 58 = .ok (.iload 5, 2) := by decide +kernel
theorem dX5_walkTo_60 : decode cX5_walkTo 60 = .ok (.aload_n 3, 1) := by decide +kernel
theorem dX5_walkTo_61 : decode cX5_walkTo 61 = .ok (.getfield 112, 3) := by decide +kernel
theorem dX5_walkTo_64 : decode cX5_walkTo 64 = .ok (.invokevirtual 151, 3) := by decide +kernel
theorem dX5_walkTo_67 : decode cX5_walkTo 67 = .ok (.ifCond .ne 5, 3) := by decide +kernel
theorem dX5_walkTo_70 : decode cX5_walkTo 70 = .ok (.iconst 0, 1) := by decide +kernel
theorem dX5_walkTo_71 : decode cX5_walkTo 71 = .ok (.ireturn, 1) := by decide +kernel
theorem dX5_walkTo_72 : decode cX5_walkTo 72 = .ok (.iinc 5 1, 3) := by decide +kernel
theorem dX5_walkTo_75 : decode cX5_walkTo 75 = .ok (.goto (-45), 3) := by decide +kernel
theorem dX5_walkTo_78 : decode cX5_walkTo 78 = .ok (.aload_n 3, 1) := by decide +kernel
theorem dX5_walkTo_79 : decode cX5_walkTo 79 = .ok (.iload_n 2, 1) := by decide +kernel
theorem dX5_walkTo_80 : decode cX5_walkTo 80 = .ok (.putfield 86, 3) := by decide +kernel
theorem dX5_walkTo_83 : decode cX5_walkTo 83 = .ok (.aload_n 3, 1) := by decide +kernel
theorem dX5_walkTo_84 : decode cX5_walkTo 84 = .ok (.dup, 1) := by decide +kernel
theorem dX5_walkTo_85 : decode cX5_walkTo 85 = .ok (.getfield 112, 3) := by decide +kernel
theorem dX5_walkTo_88 : decode cX5_walkTo 88 = .ok (.iload 4, 2) := by decide +kernel
theorem dX5_walkTo_90 : decode cX5_walkTo 90 = .ok (.iadd, 1) := by decide +kernel
theorem dX5_walkTo_91 : decode cX5_walkTo 91 = .ok (.putfield 112, 3) := by decide +kernel
theorem dX5_walkTo_94 : decode cX5_walkTo 94 = .ok (.iconst 1, 1) := by decide +kernel
theorem dX5_walkTo_95 : decode cX5_walkTo 95 = .ok (.ireturn, 1) := by decide +kernel
theorem dX5_layDown_0 : decode cX5_layDown 0 = .ok (.aload_n 0, 1) := by decide +kernel
theorem dX5_layDown_1 : decode cX5_layDown 1 = .ok (.getfield 19, 3) := by decide +kernel
theorem dX5_layDown_4 : decode cX5_layDown 4 = .ok (.iload_n 2, 1) := by decide +kernel
theorem dX5_layDown_5 : decode cX5_layDown 5 = .ok (.aaload, 1) := by decide +kernel
theorem dX5_layDown_6 : decode cX5_layDown 6 = .ok (.getfield 97, 3) := by decide +kernel
theorem dX5_layDown_9 : decode cX5_layDown 9 = .ok (.bipush 10, 2) := by decide +kernel
theorem dX5_layDown_11 : decode cX5_layDown 11 = .ok (.iload_n 1, 1) := by decide +kernel
theorem dX5_layDown_12 : decode cX5_layDown 12 = .ok (.iadd, 1) := by decide +kernel
theorem dX5_layDown_13 : decode cX5_layDown 13 = .ok (.if_icmp .eq 5, 3) := by decide +kernel
theorem dX5_layDown_16 : decode cX5_layDown 16 = .ok (.iconst 0, 1) := by decide +kernel
theorem dX5_layDown_17 : decode cX5_layDown 17 = .ok (.ireturn, 1) := by decide +kernel
theorem dX5_layDown_18 : decode cX5_layDown 18 = .ok (.aload_n 0, 1) := by decide +kernel
theorem dX5_layDown_19 : decode cX5_layDown 19 = .ok (.getfield 19, 3) := by decide +kernel
theorem dX5_layDown_22 : decode cX5_layDown 22 = .ok (.iload_n 2, 1) := by decide +kernel
theorem dX5_layDown_23 : decode cX5_layDown 23 = .ok (.aaload, 1) := by decide +kernel
theorem dX5_layDown_24 : decode cX5_layDown 24 = .ok (.aload_n 0, 1) := by decide +kernel
theorem dX5_layDown_25 : decode cX5_layDown 25 = .ok (.getfield 11, 3) := by decide +kernel
theorem dX5_layDown_28 : decode cX5_layDown 28 = .ok (.iload_n 1, 1) := by decide +kernel
theorem dX5_layDown_29 : decode cX5_layDown 29 = .ok (.aaload, 1) := by decide +kernel
theorem dX5_layDown_30 : decode cX5_layDown 30 = .ok (.getfield 86, 3) := by decide +kernel
theorem dX5_layDown_33 : decode cX5_layDown 33 = .ok (.putfield 97, 3) := by decide +kernel
theorem dX5_layDown_36 : decode cX5_layDown 36 = .ok (.aload_n 0, 1) := by decide +kernel
theorem dX5_layDown_37 : decode cX5_layDown 37 = .ok (.getfield 19, 3) := by decide +kernel
theorem dX5_layDown_40 : decode cX5_layDown 40 = .ok (.iload_n 2, 1) := by decide +kernel
theorem dX5_layDown_41 : decode cX5_layDown 41 = .ok (.aaload, 1) := by decide +kernel
theorem dX5_layDown_42 : decode cX5_layDown 42 = .ok (.aload_n 0, 1) := by decide +kernel
theorem dX5_layDown_43 : decode cX5_layDown 43 = .ok (.getfield 11, 3) := by decide +kernel
theorem dX5_layDown_46 : decode cX5_layDown 46 = .ok (.iload_n 1, 1) := by decide +kernel
theorem dX5_layDown_47 : decode cX5_layDown 47 = .ok (.aaload, 1) := by decide +kernel
theorem dX5_layDown_48 : decode cX5_layDown 48 = .ok (.getfield 112, 3) := by decide +kernel
theorem dX5_layDown_51 : decode cX5_layDown 51 = .ok (.putfield 133, 3) := by decide +kernel
theorem dX5_layDown_54 : decode cX5_layDown 54 = .ok (.iconst 1, 1) := by decide +kernel
theorem dX5_layDown_55 : decode cX5_layDown 55 = .ok (.ireturn, 1) := by decide +kernel
theorem dX5_handOver_0 : decode cX5_handOver 0 = .ok (.aload_n 0, 1) := by decide +kernel
theorem dX5_handOver_1 : decode cX5_handOver 1 = .ok (.getfield 11, 3) := by decide +kernel
theorem dX5_handOver_4 : decode cX5_handOver 4 = .ok (.iload_n 1, 1) := by decide +kernel
theorem dX5_handOver_5 : decode cX5_handOver 5 = .ok (.aaload, 1) := by decide +kernel
theorem dX5_handOver_6 : decode cX5_handOver 6 = .ok (.astore 4, 2) := by decide +kernel
theorem dX5_handOver_8 : decode cX5_handOver 8 = .ok (.aload_n 0, 1) := by decide +kernel
theorem dX5_handOver_9 : decode cX5_handOver 9 = .ok (.getfield 11, 3) := by decide +kernel
theorem dX5_handOver_12 : decode cX5_handOver 12 = .ok (.iload_n 2, 1) := by decide +kernel
theorem dX5_handOver_13 : decode cX5_handOver 13 = .ok (.aaload, 1) := by decide +kernel
theorem dX5_handOver_14 : decode cX5_handOver 14 = .ok (.astore 5, 2) := by decide +kernel
theorem dX5_handOver_16 : decode cX5_handOver 16 = .ok (.aload 4, 2) := by decide +kernel
theorem dX5_handOver_18 : decode cX5_handOver 18 = .ok (.getfield 112, 3) := by decide +kernel
theorem dX5_handOver_21 : decode cX5_handOver 21 = .ok (.aload 5, 2) := by decide +kernel
theorem dX5_handOver_23 : decode cX5_handOver 23 = .ok (.getfield 112, 3) := by decide +kernel
theorem dX5_handOver_26 : decode cX5_handOver 26 = .ok (.invokestatic 80, 3) := by decide +kernel
theorem dX5_handOver_29 : decode cX5_handOver 29 = .ok (.istore 6, 2) := by decide +kernel
theorem dX5_handOver_31 : decode cX5_handOver 31 = .ok (.aload_n 0, 1) := by decide +kernel
theorem dX5_handOver_32 : decode cX5_handOver 32 = .ok (.getfield 19, 3) := by decide +kernel
theorem dX5_handOver_35 : decode cX5_handOver 35 = .ok (.iload_n 3, 1) := by decide +kernel
theorem dX5_handOver_36 : decode cX5_handOver 36 = .ok (.aaload, 1) := by decide +kernel
theorem dX5_handOver_37 : decode cX5_handOver 37 = .ok (.getfield 97, 3) := by decide +kernel
theorem dX5_handOver_40 : decode cX5_handOver 40 = .ok (.bipush 10, 2) := by decide +kernel
theorem dX5_handOver_42 : decode cX5_handOver 42 = .ok (.iload_n 1, 1) := by decide +kernel
theorem dX5_handOver_43 : decode cX5_handOver 43 = .ok (.iadd, 1) := by decide +kernel
theorem dX5_handOver_44 : decode cX5_handOver 44 = .ok (.if_icmp .ne 36, 3) := by decide +kernel
theorem dX5_handOver_47 : decode cX5_handOver 47 = .ok (.aload 4, 2) := by decide +kernel
theorem dX5_handOver_49 : decode cX5_handOver 49 = .ok (.getfield 86, 3) := by decide +kernel
theorem dX5_handOver_52 : decode cX5_handOver 52 = .ok (.aload 5, 2) := by decide +kernel
theorem dX5_handOver_54 : decode cX5_handOver 54 = .ok (.getfield 86, 3) := by decide +kernel
theorem dX5_handOver_57 : decode cX5_handOver 57 = .ok (.if_icmp .ne 23, 3) := by decide +kernel
theorem dX5_handOver_60 : decode cX5_handOver 60 = .ok (.aload_n 0, 1) := by decide +kernel
theorem dX5_handOver_61 : decode cX5_handOver 61 = .ok (.iload_n 2, 1) := by decide +kernel
theorem dX5_handOver_62 : decode cX5_handOver 62 = .ok (.iload_n 3, 1) := by decide +kernel
theorem dX5_handOver_63 : decode cX5_handOver 63 = .ok (.iload 6, 2) := by decide +kernel
theorem dX5_handOver_65 : decode cX5_handOver 65 = .ok (.invokevirtual 151, 3) := by decide +kernel
theorem dX5_handOver_68 : decode cX5_handOver 68 = .ok (.ifCond .eq 12, 3) := by decide +kernel
theorem dX5_handOver_71 : decode cX5_handOver 71 = .ok (.aload_n 0, 1) := by decide +kernel
theorem dX5_handOver_72 : decode cX5_handOver 72 = .ok (.iload_n 2, 1) := by decide +kernel
theorem dX5_handOver_73 : decode cX5_handOver 73 = .ok (.iload_n 3, 1) := by decide +kernel
theorem dX5_handOver_74 : decode cX5_handOver 74 = .ok (.invokevirtual 154, 3) := by decide +kernel
theorem dX5_handOver_77 : decode cX5_handOver 77 = .ok (.ifCond .ne 5, 3) := by decide +kernel
theorem dX5_handOver_80 : decode cX5_handOver 80 = .ok (.iconst 0, 1) := by decide +kernel
theorem dX5_handOver_81 : decode cX5_handOver 81 = .ok (.ireturn, 1) := by decide +kernel
theorem dX5_handOver_82 : decode cX5_handOver 82 = .ok (.aload 4, 2) := by decide +kernel
theorem dX5_handOver_84 : decode cX5_handOver 84 = .ok (.iload 6, 2) := by decide +kernel
theorem dX5_handOver_86 : decode cX5_handOver 86 = .ok (.putfield 112, 3) := by decide +kernel
theorem dX5_handOver_89 : decode cX5_handOver 89 = .ok (.aload 5, 2) := by decide +kernel
theorem dX5_handOver_91 : decode cX5_handOver 91 = .ok (.iload 6, 2) := by decide +kernel
theorem dX5_handOver_93 : decode cX5_handOver 93 = .ok (.putfield 112, 3) := by decide +kernel
theorem dX5_handOver_96 : decode cX5_handOver 96 = .ok (.aload_n 0, 1) := by decide +kernel
theorem dX5_handOver_97 : decode cX5_handOver 97 = .ok (.iload_n 2, 1) := by decide +kernel
theorem dX5_handOver_98 : decode cX5_handOver 98 = .ok (.iload_n 3, 1) := by decide +kernel
theorem dX5_handOver_99 : decode cX5_handOver 99 = .ok (.invokevirtual 157, 3) := by decide +kernel
theorem dX5_handOver_102 : decode cX5_handOver 102 = .ok (.iconst 1, 1) := by decide +kernel
theorem dX5_handOver_103 : decode cX5_handOver 103 = .ok (.ireturn, 1) := by decide +kernel
theorem dX5_roundMinute_0 : decode cX5_roundMinute 0 = .ok (.aload_n 0, 1) := by decide +kernel
theorem dX5_roundMinute_1 : decode cX5_roundMinute 1 = .ok (.getfield 11, 3) := by decide +kernel
theorem dX5_roundMinute_4 : decode cX5_roundMinute 4 = .ok (.iload_n 1, 1) := by decide +kernel
theorem dX5_roundMinute_5 : decode cX5_roundMinute 5 = .ok (.aaload, 1) := by decide +kernel
theorem dX5_roundMinute_6 : decode cX5_roundMinute 6 = .ok (.astore_n 3, 1) := by decide +kernel
theorem dX5_roundMinute_7 : decode cX5_roundMinute 7 = .ok (.aload_n 0, 1) := by decide +kernel
theorem dX5_roundMinute_8 : decode cX5_roundMinute 8 = .ok (.getfield 19, 3) := by decide +kernel
theorem dX5_roundMinute_11 : decode cX5_roundMinute 11 = .ok (.iload_n 2, 1) := by decide +kernel
theorem dX5_roundMinute_12 : decode cX5_roundMinute 12 = .ok (.aaload, 1) := by decide +kernel
theorem dX5_roundMinute_13 : decode cX5_roundMinute 13 = .ok (.astore 4, 2) := by decide +kernel
theorem dX5_roundMinute_15 : decode cX5_roundMinute 15 = .ok (.aload_n 0, 1) := by decide +kernel
theorem dX5_roundMinute_16 : decode cX5_roundMinute 16 = .ok (.aload_n 3, 1) := by decide +kernel
theorem dX5_roundMinute_17 : decode cX5_roundMinute 17 = .ok (.getfield 89, 3) := by decide +kernel
theorem dX5_roundMinute_20 : decode cX5_roundMinute 20 = .ok (.aload 4, 2) := by decide +kernel
theorem dX5_roundMinute_22 : decode cX5_roundMinute 22 = .ok (.getfield 95, 3) := by decide +kernel
theorem dX5_roundMinute_25 : decode cX5_roundMinute 25 = .ok (.invokevirtual 161, 3) := by decide +kernel
theorem dX5_roundMinute_28 : decode cX5_roundMinute 28 = .ok (.istore 5, 2) := by decide +kernel
theorem dX5_roundMinute_30 : decode cX5_roundMinute 30 = .ok (.aload_n 0, 1) := by decide +kernel
theorem dX5_roundMinute_31 : decode cX5_roundMinute 31 = .ok (.aload 4, 2) := by decide +kernel
theorem dX5_roundMinute_33 : decode cX5_roundMinute 33 = .ok (.getfield 95, 3) := by decide +kernel
theorem dX5_roundMinute_36 : decode cX5_roundMinute 36 = .ok (.aload 4, 2) := by decide +kernel
theorem dX5_roundMinute_38 : decode cX5_roundMinute 38 = .ok (.getfield 96, 3) := by decide +kernel
theorem dX5_roundMinute_41 : decode cX5_roundMinute 41 = .ok (.invokevirtual 161, 3) := by decide +kernel
theorem dX5_roundMinute_44 : decode cX5_roundMinute 44 = .ok (.istore 6, 2) := by decide +kernel
theorem dX5_roundMinute_46 : decode cX5_roundMinute 46 = .ok (.iload 5, 2) := by decide +kernel
theorem dX5_roundMinute_48 : decode cX5_roundMinute 48 = .ok (.ldc 139, 2) := by decide +kernel
theorem dX5_roundMinute_50 : decode cX5_roundMinute 50 = .ok (.if_icmp .ge 28, 3) := by decide +kernel
theorem dX5_roundMinute_53 : decode cX5_roundMinute 53 = .ok (.iload 6, 2) := by decide +kernel
theorem dX5_roundMinute_55 : decode cX5_roundMinute 55 = .ok (.ldc 139, 2) := by decide +kernel
theorem dX5_roundMinute_57 : decode cX5_roundMinute 57 = .ok (.if_icmp .ge 21, 3) := by decide +kernel
theorem dX5_roundMinute_60 : decode cX5_roundMinute 60 = .ok (.aload_n 0, 1) := by decide +kernel
theorem dX5_roundMinute_61 : decode cX5_roundMinute 61 = .ok (.aload 4, 2) := by decide +kernel
theorem dX5_roundMinute_63 : decode cX5_roundMinute 63 = .ok (.getfield 96, 3) := by decide +kernel
theorem dX5_roundMinute_66 : decode cX5_roundMinute 66 = .ok (.aload_n 3, 1) := by decide +kernel
theorem dX5_roundMinute_67 : decode cX5_roundMinute 67 = .ok (.getfield 92, 3) := by decide +kernel
theorem dX5_roundMinute_70 : decode cX5_roundMinute 70 = .ok (.invokevirtual 161, 3) := by decide +kernel
theorem dX5_roundMinute_73 : decode cX5_roundMinute 73 = .ok (.ldc 139, 2) := by decide +kernel
theorem dX5_roundMinute_75 : decode cX5_roundMinute 75 = .ok (.if_icmp .lt 6, 3) := by decide +kernel
theorem dX5_roundMinute_78 : decode cX5_roundMinute 78 = .ok (.bipush (-9), 2) := by decide +kernel
theorem dX5_roundMinute_80 : decode cX5_roundMinute 80 = .ok (.ireturn, 1) := by decide +kernel
theorem dX5_roundMinute_81 : decode cX5_roundMinute 81 = .ok (.aload_n 3, 1) := by decide +kernel
theorem dX5_roundMinute_82 : decode cX5_roundMinute 82 = .ok (.getfield 103, 3) := by decide +kernel
theorem dX5_roundMinute_85 : decode cX5_roundMinute 85 = .ok (.iload 5, 2) := by decide +kernel
theorem dX5_roundMinute_87 : decode cX5_roundMinute 87 = .ok (.iadd, 1) := by decide +kernel
theorem dX5_roundMinute_88 : decode cX5_roundMinute 88 = .ok (.istore 7, 2) := by decide +kernel
theorem dX5_roundMinute_90 : decode cX5_roundMinute 90 = .ok (.aload_n 0, 1) := by decide +kernel
theorem dX5_roundMinute_91 : decode cX5_roundMinute 91 = .ok (.iload_n 1, 1) := by decide +kernel
theorem dX5_roundMinute_92 : decode cX5_roundMinute 92 = .ok (.iload_n 2, 1) := by decide +kernel
theorem dX5_roundMinute_93 : decode cX5_roundMinute 93 = .ok (.invokevirtual 143, 3) := by decide +kernel
theorem dX5_roundMinute_96 : decode cX5_roundMinute 96 = .ok (.ifCond .eq 20, 3) := by decide +kernel
theorem dX5_roundMinute_99 : decode cX5_roundMinute 99 = .ok (.aload_n 0, 1) := by decide +kernel
theorem dX5_roundMinute_100 : decode cX5_roundMinute 100 = .ok (.aload_n 0, 1) := by decide +kernel
theorem dX5_roundMinute_101 : decode cX5_roundMinute 101 = .ok (.getfield 58, 3) := by decide +kernel
theorem dX5_roundMinute_104 : decode cX5_roundMinute 104 = .ok (.iload_n 1, 1) := by decide +kernel
theorem dX5_roundMinute_105 : decode cX5_roundMinute 105 = .ok (.iload_n 2, 1) := by decide +kernel
theorem dX5_roundMinute_106 : decode cX5_roundMinute 106 = .ok (.iload 7, 2) := by decide +kernel
theorem dX5_roundMinute_108 : decode cX5_roundMinute 108 = .ok (.bipush (-9), 2) := by decide +kernel
theorem dX5_roundMinute_110 : decode cX5_roundMinute 110 = .ok (.invokevirtual 147, 3) := by decide +kernel
theorem dX5_roundMinute_113 : decode cX5_roundMinute 113 = .ok (.ifCond .ne 6, 3) := by decide +kernel
theorem dX5_roundMinute_116 : decode cX5_roundMinute 116 = .ok (.bipush (-9), 2) := by decide +kernel
theorem dX5_roundMinute_118 : decode cX5_roundMinute 118 = .ok (.ireturn, 1) := by decide +kernel
theorem dX5_roundMinute_119 : decode cX5_roundMinute 119 = .ok (.iload 7, 2) := by decide +kernel
theorem dX5_roundMinute_121 : decode cX5_roundMinute 121 = .ok (.iload 6, 2) := by decide +kernel
theorem dX5_roundMinute_123 : decode cX5_roundMinute 123 = .ok (.iadd, 1) := by decide +kernel
theorem dX5_roundMinute_124 : decode cX5_roundMinute 124 = .ok (.istore 8, 2) := by decide +kernel
theorem dX5_roundMinute_126 : decode cX5_roundMinute 126 = .ok (.iload 8, 2) := by decide +kernel
theorem dX5_roundMinute_128 : decode cX5_roundMinute 128 = .ok (.aload 4, 2) := by decide +kernel
theorem dX5_roundMinute_130 : decode cX5_roundMinute 130 = .ok (.getfield 127, 3) := by decide +kernel
theorem dX5_roundMinute_133 : decode cX5_roundMinute 133 = .ok (.if_icmp .le 8, 3) := by decide +kernel
theorem dX5_roundMinute_136 : decode cX5_roundMinute 136 = .ok (.bipush (-9), 2) := by decide +kernel
theorem dX5_roundMinute_138 : decode cX5_roundMinute 138 = .ok (.goto 5, 3) := by decide +kernel
theorem dX5_roundMinute_141 : decode cX5_roundMinute 141 = .ok (.iload 8, 2) := by decide +kernel
theorem dX5_roundMinute_143 : decode cX5_roundMinute 143 = .ok (.ireturn, 1) := by decide +kernel
theorem dX5_roundMore_0 : decode cX5_roundMore 0 = .ok (.aload_n 0, 1) := by decide +kernel
theorem dX5_roundMore_1 : decode cX5_roundMore 1 = .ok (.getfield 11, 3) := by decide +kernel
theorem dX5_roundMore_4 : decode cX5_roundMore 4 = .ok (.iload_n 1, 1) := by decide +kernel
theorem dX5_roundMore_5 : decode cX5_roundMore 5 = .ok (.aaload, 1) := by decide +kernel
theorem dX5_roundMore_6 : decode cX5_roundMore 6 = .ok (.astore_n 3, 1) := by decide +kernel
theorem dX5_roundMore_7 : decode cX5_roundMore 7 = .ok (.aload_n 0, 1) := by decide +kernel
theorem dX5_roundMore_8 : decode cX5_roundMore 8 = .ok (.getfield 19, 3) := by decide +kernel
theorem dX5_roundMore_11 : decode cX5_roundMore 11 = .ok (.iload_n 2, 1) := by decide +kernel
theorem dX5_roundMore_12 : decode cX5_roundMore 12 = .ok (.aaload, 1) := by decide +kernel
theorem dX5_roundMore_13 : decode cX5_roundMore 13 = .ok (.astore 4, 2) := by decide +kernel
theorem dX5_roundMore_15 : decode cX5_roundMore 15 = .ok (.aload_n 0, 1) := by decide +kernel
theorem dX5_roundMore_16 : decode cX5_roundMore 16 = .ok (.aload_n 3, 1) := by decide +kernel
theorem dX5_roundMore_17 : decode cX5_roundMore 17 = .ok (.getfield 89, 3) := by decide +kernel
theorem dX5_roundMore_20 : decode cX5_roundMore 20 = .ok (.aload 4, 2) := by decide +kernel
theorem dX5_roundMore_22 : decode cX5_roundMore 22 = .ok (.getfield 95, 3) := by decide +kernel
theorem dX5_roundMore_25 : decode cX5_roundMore 25 = .ok (.invokevirtual 161, 3) := by decide +kernel
theorem dX5_roundMore_28 : decode cX5_roundMore 28 = .ok (.aload_n 0, 1) := by decide +kernel
theorem dX5_roundMore_29 : decode cX5_roundMore 29 = .ok (.aload 4, 2) := by decide +kernel
theorem dX5_roundMore_31 : decode cX5_roundMore 31 = .ok (.getfield 95, 3) := by decide +kernel
theorem dX5_roundMore_34 : decode cX5_roundMore 34 = .ok (.aload 4, 2) := by decide +kernel
theorem dX5_roundMore_36 : decode cX5_roundMore 36 = .ok (.getfield 96, 3) := by decide +kernel
theorem dX5_roundMore_39 : decode cX5_roundMore 39 = .ok (.invokevirtual 161, 3) := by decide +kernel
theorem dX5_roundMore_42 : decode cX5_roundMore 42 = .ok (.iadd, 1) := by decide +kernel
theorem dX5_roundMore_43 : decode cX5_roundMore 43 = .ok (.aload_n 0, 1) := by decide +kernel
theorem dX5_roundMore_44 : decode cX5_roundMore 44 = .ok (.aload 4, 2) := by decide +kernel
theorem dX5_roundMore_46 : decode cX5_roundMore 46 = .ok (.getfield 96, 3) := by decide +kernel
theorem dX5_roundMore_49 : decode cX5_roundMore 49 = .ok (.aload_n 3, 1) := by decide +kernel
theorem dX5_roundMore_50 : decode cX5_roundMore 50 = .ok (.getfield 92, 3) := by decide +kernel
theorem dX5_roundMore_53 : decode cX5_roundMore 53 = .ok (.invokevirtual 161, 3) := by decide +kernel
theorem dX5_roundMore_56 : decode cX5_roundMore 56 = .ok (.iadd, 1) := by decide +kernel
theorem dX5_roundMore_57 : decode cX5_roundMore 57 = .ok (.aload_n 0, 1) := by decide +kernel
theorem dX5_roundMore_58 : decode cX5_roundMore 58 = .ok (.aload_n 3, 1) := by decide +kernel
theorem dX5_roundMore_59 : decode cX5_roundMore 59 = .ok (.getfield 89, 3) := by decide +kernel
theorem dX5_roundMore_62 : decode cX5_roundMore 62 = .ok (.aload_n 3, 1) := by decide +kernel
theorem dX5_roundMore_63 : decode cX5_roundMore 63 = .ok (.getfield 92, 3) := by decide +kernel
theorem dX5_roundMore_66 : decode cX5_roundMore 66 = .ok (.invokevirtual 161, 3) := by decide +kernel
theorem dX5_roundMore_69 : decode cX5_roundMore 69 = .ok (.isub, 1) := by decide +kernel
theorem dX5_roundMore_70 : decode cX5_roundMore 70 = .ok (.ireturn, 1) := by decide +kernel
theorem dX5_strangerCanBring_0 : decode cX5_strangerCanBring 0 = .ok (.aload_n 0, 1) := by decide +kernel
theorem dX5_strangerCanBring_1 : decode cX5_strangerCanBring 1 = .ok (.getfield 19, 3) := by decide +kernel
theorem dX5_strangerCanBring_4 : decode cX5_strangerCanBring 4 = .ok (.iload_n 1, 1) := by decide +kernel
theorem dX5_strangerCanBring_5 : decode cX5_strangerCanBring 5 = .ok (.aaload, 1) := by decide +kernel
theorem dX5_strangerCanBring_6 : decode cX5_strangerCanBring 6 = .ok (.astore_n 2, 1) := by decide +kernel
theorem dX5_strangerCanBring_7 : decode cX5_strangerCanBring 7 = .ok (.aload_n 0, 1) := by decide +kernel
theorem dX5_strangerCanBring_8 : decode cX5_strangerCanBring 8 = .ok (.iconst 0, 1) := by decide +kernel
theorem dX5_strangerCanBring_9 : decode cX5_strangerCanBring 9 = .ok (.aload_n 2, 1) := by decide +kernel
theorem dX5_strangerCanBring_10 : decode cX5_strangerCanBring 10 = .ok (.getfield 95, 3) := by decide +kernel
theorem dX5_strangerCanBring_13 : decode cX5_strangerCanBring 13 = .ok (.invokevirtual 161, 3) := by decide +kernel
theorem dX5_strangerCanBring_16 : decode cX5_strangerCanBring 16 = .ok (.aload_n 0, 1) := by decide +kernel
theorem dX5_strangerCanBring_17 : decode cX5_strangerCanBring 17 = .ok (.aload_n 2, 1) := by decide +kernel
theorem dX5_strangerCanBring_18 : decode cX5_strangerCanBring 18 = .ok (.getfield 95, 3) := by decide +kernel
theorem dX5_strangerCanBring_21 : decode cX5_strangerCanBring 21 = .ok (.aload_n 2, 1) := by decide +kernel
theorem dX5_strangerCanBring_22 : decode cX5_strangerCanBring 22 = .ok (.getfield 96, 3) := by decide +kernel
theorem dX5_strangerCanBring_25 : decode cX5_strangerCanBring 25 = .ok (.invokevirtual 161, 3) := by decide +kernel
theorem dX5_strangerCanBring_28 : decode cX5_strangerCanBring 28 = .ok (.iadd, 1) := by decide +kernel
theorem dX5_strangerCanBring_29 : decode cX5_strangerCanBring 29 = .ok (.aload_n 2, 1) := by decide +kernel
theorem dX5_strangerCanBring_30 : decode cX5_strangerCanBring 30 = .ok (.getfield 127, 3) := by decide +kernel
theorem dX5_strangerCanBring_33 : decode cX5_strangerCanBring 33 = .ok (.if_icmp .gt 7, 3) := by decide +kernel
theorem dX5_strangerCanBring_36 : decode cX5_strangerCanBring 36 = .ok (.iconst 1, 1) := by decide +kernel
theorem dX5_strangerCanBring_37 : decode cX5_strangerCanBring 37 = .ok (.goto 4, 3) := by decide +kernel
theorem dX5_strangerCanBring_40 : decode cX5_strangerCanBring 40 = .ok (.iconst 0, 1) := by decide +kernel
theorem dX5_strangerCanBring_41 : decode cX5_strangerCanBring 41 = .ok (.ireturn, 1) := by decide +kernel
theorem dX6_init_0 : decode cX6_init 0 = .ok (.aload_n 0, 1) := by decide +kernel
theorem dX6_init_1 : decode cX6_init 1 = .ok (.invokespecial 3, 3) := by decide +kernel
theorem dX6_init_4 : decode cX6_init 4 = .ok (.aload_n 0, 1) := by decide +kernel
theorem dX6_init_5 : decode cX6_init 5 = .ok (.bipush 7, 2) := by decide +kernel
theorem dX6_init_7 : decode cX6_init 7 = .ok (.newarray .int, 2) := by decide +kernel
theorem dX6_init_9 : decode cX6_init 9 = .ok (.putfield 9, 3) := by decide +kernel
theorem dX6_init_12 : decode cX6_init 12 = .ok (.aload_n 0, 1) := by decide +kernel
theorem dX6_init_13 : decode cX6_init 13 = .ok (.bipush 7, 2) := by decide +kernel
theorem dX6_init_15 : decode cX6_init 15 = .ok (.newarray .int, 2) := by decide +kernel
theorem dX6_init_17 : decode cX6_init 17 = .ok (.putfield 15, 3) := by decide +kernel
theorem dX6_init_20 : decode cX6_init 20 = .ok (.return_, 1) := by decide +kernel
theorem dX6_lead_0 : decode cX6_lead 0 = .ok (.aload_n 0, 1) := by decide +kernel
theorem dX6_lead_1 : decode cX6_lead 1 = .ok (.iconst 0, 1) := by decide +kernel
theorem dX6_lead_2 : decode cX6_lead 2 = .ok (.putfield 18, 3) := by decide +kernel
theorem dX6_lead_5 : decode cX6_lead 5 = .ok (.aload_n 1, 1) := by decide +kernel
theorem dX6_lead_6 : decode cX6_lead 6 = .ok (.iload_n 2, 1) := by decide +kernel
theorem dX6_lead_7 : decode cX6_lead 7 = .ok (.iload_n 3, 1) := by decide +kernel
theorem dX6_lead_8 : decode cX6_lead 8 = .ok (.invokevirtual 22, 3) := by decide +kernel
theorem dX6_lead_11 : decode cX6_lead 11 = .ok (.ldc 28, 2) := by decide +kernel
theorem dX6_lead_13 : decode cX6_lead 13 = .ok (.if_icmp .lt 4, 3) := by decide +kernel
theorem dX6_lead_16 : decode cX6_lead 16 = .ok (.return_, 1) := by decide +kernel
theorem dX6_lead_17 : decode cX6_lead 17 = .ok (.iload_n 2, 1) := by decide +kernel
theorem dX6_lead_18 : decode cX6_lead 18 = .ok (.istore 5, 2) := by decide +kernel
theorem dX6_lead_20 : decode cX6_lead 20 = .ok (.iload 4, 2) := by decide +kernel
theorem dX6_lead_22 : decode cX6_lead 22 = .ok (.istore 6, 2) := by decide +kernel
theorem dX6_lead_24 : decode cX6_lead 24 = .ok (.aload_n 0, 1) := by decide +kernel
theorem dX6_lead_25 : decode cX6_lead 25 = .ok (.iload 5, 2) := by decide +kernel
theorem dX6_lead_27 : decode cX6_lead 27 = .ok (.iload 6, 2) := by decide +kernel
theorem dX6_lead_29 : decode cX6_lead 29 = .ok (.invokevirtual 29, 3) := by decide +kernel
theorem dX6_lead_32 : decode cX6_lead 32 = .ok (.iconst 1, 1) := by decide +kernel
theorem dX6_lead_33 : decode cX6_lead 33 = .ok (.istore 7, 2) := by decide +kernel
theorem dX6_lead_35 : decode cX6_lead 35 = .ok (.iload 7, 2) := by decide +kernel
theorem dX6_lead_37 : decode cX6_lead 37 = .ok (.bipush 7, 2) := by decide +kernel
theorem dX6_lead_39 : decode cX6_lead 39 = .ok (.if_icmp .ge 50, 3) := by decide +kernel
theorem dX6_lead_42 : decode cX6_lead 42 = .ok (.iload 5, 2) := by decide +kernel
theorem dX6_lead_44 : decode cX6_lead 44 = .ok (.iload_n 3, 1) := by decide +kernel
theorem dX6_lead_45 : decode cX6_lead 45 = .ok (.if_icmp .eq 44, 3) := by decide +kernel
theorem dX6_lead_48 : decode cX6_lead 48 = .ok (.aload_n 0, 1) := by decide +kernel
theorem dX6_lead_49 : decode cX6_lead 49 = .ok (.aload_n 1, 1) := by decide +kernel
theorem dX6_lead_50 : decode cX6_lead 50 = .ok (.iload 5, 2) := by decide +kernel
theorem dX6_lead_52 : decode cX6_lead 52 = .ok (.iload_n 3, 1) := by decide +kernel
theorem dX6_lead_53 : decode cX6_lead 53 = .ok (.invokevirtual 33, 3) := by decide +kernel
theorem dX6_lead_56 : decode cX6_lead 56 = .ok (.istore 8, 2) := by decide +kernel
theorem dX6_lead_58 : decode cX6_lead 58 = .ok (.iload 6, 2) := by decide +kernel
theorem dX6_lead_60 : decode cX6_lead 60 = .ok (.aload_n 1, 1) := by decide +kernel
theorem dX6_lead_61 : decode cX6_lead 61 = .ok (.iload 5, 2) := by decide +kernel
theorem dX6_lead_63 : decode cX6_lead 63 = .ok (.iload 8, 2) := by decide +kernel
theorem dX6_lead_65 : decode cX6_lead 65 = .ok (.invokevirtual 37, 3) := by decide +kernel
theorem dX6_lead_68 : decode cX6_lead 68 = .ok (.iadd, 1) := by decide +kernel
theorem dX6_lead_69 : decode cX6_lead 69 = .ok (.istore 6, 2) := by decide +kernel
theorem dX6_lead_71 : decode cX6_lead 71 = .ok (.iload 8, 2) := by decide +kernel
theorem dX6_lead_73 : decode cX6_lead 73 = .ok (.istore 5, 2) := by decide +kernel
theorem dX6_lead_75 : decode cX6_lead 75 = .ok (.aload_n 0, 1) := by decide +kernel
theorem dX6_lead_76 : decode cX6_lead 76 = .ok (.iload 5, 2) := by decide +kernel
theorem dX6_lead_78 : decode cX6_lead 78 = .ok (.iload 6, 2) := by decide +kernel
theorem dX6_lead_80 : decode cX6_lead 80 = .ok (.invokevirtual 29, 3) := by decide +kernel
theorem dX6_lead_83 : decode cX6_lead 83 = .ok (.iinc 7 1, 3) := by decide +kernel
theorem dX6_lead_86 : decode cX6_lead 86 = .ok (.goto (-51), 3) := by decide +kernel
theorem dX6_lead_89 : decode cX6_lead 89 = .ok (.return_, 1) := by decide +kernel
theorem dX6_append_0 : decode cX6_append 0 = .ok (.aload_n 0, 1) := by decide +kernel
theorem dX6_append_1 : decode cX6_append 1 = .ok (.getfield 18, 3) := by decide +kernel
theorem dX6_append_4 : decode cX6_append 4 = .ok (.bipush 7, 2) := by decide +kernel
theorem dX6_append_6 : decode cX6_append 6 = .ok (.if_icmp .ge 33, 3) := by decide +kernel
theorem dX6_append_9 : decode cX6_append 9 = .ok (.aload_n 0, 1) := by decide +kernel
theorem dX6_append_10 : decode cX6_append 10 = .ok (.getfield 9, 3) := by decide +kernel
theorem dX6_append_13 : decode cX6_append 13 = .ok (.aload_n 0, 1) := by decide +kernel
theorem dX6_append_14 : decode cX6_append 14 = .ok (.getfield 18, 3) := by decide +kernel
theorem dX6_append_17 : decode cX6_append 17 = .ok (.iload_n 1, 1) := by decide +kernel
theorem dX6_append_18 : decode cX6_append 18 = .ok (.iastore, 1) := by decide +kernel
theorem dX6_append_19 : decode cX6_append 19 = .ok (.aload_n 0, 1) := by decide +kernel
theorem dX6_append_20 : decode cX6_append 20 = .ok (.getfield 15, 3) := by decide +kernel
theorem dX6_append_23 : decode cX6_append 23 = .ok (.aload_n 0, 1) := by decide +kernel
theorem dX6_append_24 : decode cX6_append 24 = .ok (.getfield 18, 3) := by decide +kernel
theorem dX6_append_27 : decode cX6_append 27 = .ok (.iload_n 2, 1) := by decide +kernel
theorem dX6_append_28 : decode cX6_append 28 = .ok (.iastore, 1) := by decide +kernel
theorem dX6_append_29 : decode cX6_append 29 = .ok (.aload_n 0, 1) := by decide +kernel
theorem dX6_append_30 : decode cX6_append 30 = .ok (.dup, 1) := by decide +kernel
theorem dX6_append_31 : decode cX6_append 31 = .ok (.getfield 18, 3) := by decide +kernel
theorem dX6_append_34 : decode cX6_append 34 = .ok (.iconst 1, 1) := by decide +kernel
theorem dX6_append_35 : decode cX6_append 35 = .ok (.iadd, 1) := by decide +kernel
theorem dX6_append_36 : decode cX6_append 36 = .ok (.putfield 18, 3) := by decide +kernel
theorem dX6_append_39 : decode cX6_append 39 = .ok (.return_, 1) := by decide +kernel
theorem dX6_nextToward_0 : decode cX6_nextToward 0 = .ok (.aload_n 1, 1) := by decide +kernel
theorem dX6_nextToward_1 : decode cX6_nextToward 1 = .ok (.iload_n 2, 1) := by decide +kernel
theorem dX6_nextToward_2 : decode cX6_nextToward 2 = .ok (.iload_n 3, 1) := by decide +kernel
theorem dX6_nextToward_3 : decode cX6_nextToward 3 = .ok (.invokevirtual 22, 3) := by decide +kernel
theorem dX6_nextToward_6 : decode cX6_nextToward 6 = .ok (.istore 4, 2) := by decide +kernel
theorem dX6_nextToward_8 : decode cX6_nextToward 8 = .ok (.iconst 0, 1) := by decide +kernel
theorem dX6_nextToward_9 : decode cX6_nextToward 9 = .ok (.istore 5, 2) := by decide +kernel
theorem dX6_nextToward_11 : decode cX6_nextToward 11 = .ok (.iload 5, 2) := by decide +kernel
theorem dX6_nextToward_13 : decode cX6_nextToward 13 = .ok (.aload_n 1, 1) := by decide +kernel
theorem dX6_nextToward_14 : decode cX6_nextToward 14 = .ok (.getfield 40, 3) := by decide +kernel
theorem dX6_nextToward_17 : decode cX6_nextToward 17 = .ok (.if_icmp .ge 41, 3) := by decide +kernel
theorem dX6_nextToward_20 : decode cX6_nextToward 20 = .ok (.aload_n 1, 1) := by decide +kernel
theorem dX6_nextToward_21 : decode cX6_nextToward 21 = .ok (.iload_n 2, 1) := by decide +kernel
theorem dX6_nextToward_22 : decode cX6_nextToward 22 = .ok (.iload 5, 2) := by decide +kernel
theorem dX6_nextToward_24 : decode cX6_nextToward 24 = .ok (.invokevirtual 37, 3) := by decide +kernel
theorem dX6_nextToward_27 : decode cX6_nextToward 27 = .ok (.istore 6, 2) := by decide +kernel
theorem dX6_nextToward_29 : decode cX6_nextToward 29 = .ok (.iload 6, 2) := by decide +kernel
theorem dX6_nextToward_31 : decode cX6_nextToward 31 = .ok (.ifCond .le 21, 3) := by decide +kernel
theorem dX6_nextToward_34 : decode cX6_nextToward 34 = .ok (.iload 6, 2) := by decide +kernel
theorem dX6_nextToward_36 : decode cX6_nextToward 36 = .ok (.aload_n 1, 1) := by decide +kernel
theorem dX6_nextToward_37 : decode cX6_nextToward 37 = .ok (.iload 5, 2) := by decide +kernel
theorem dX6_nextToward_39 : decode cX6_nextToward 39 = .ok (.iload_n 3, 1) := by decide +kernel
theorem dX6_nextToward_40 : decode cX6_nextToward 40 = .ok (.invokevirtual 22, 3) := by decide +kernel
theorem dX6_nextToward_43 : decode cX6_nextToward 43 = .ok (.iadd, 1) := by decide +kernel
theorem dX6_nextToward_44 : decode cX6_nextToward 44 = .ok (.iload 4, 2) := by decide +kernel
theorem dX6_nextToward_46 : decode cX6_nextToward 46 = .ok (.if_icmp .ne 6, 3) := by decide +kernel
theorem dX6_nextToward_49 : decode cX6_nextToward 49 = .ok (.iload 5, 2) := by decide +kernel
theorem dX6_nextToward_51 : decode cX6_nextToward 51 = .ok (.ireturn, 1) := by decide +kernel
theorem dX6_nextToward_52 : decode cX6_nextToward 52 = .ok (.iinc 5 1, 3) := by decide +kernel
theorem dX6_nextToward_55 : decode cX6_nextToward 55 = .ok (.goto (-44), 3) := by decide +kernel
theorem dX6_nextToward_58 : decode cX6_nextToward 58 = .ok (.iload_n 3, 1) := by decide +kernel
theorem dX6_nextToward_59 : decode cX6_nextToward 59 = .ok (.ireturn, 1) := by decide +kernel
theorem dX6_indexAt_0 : decode cX6_indexAt 0 = .ok (.iconst 0, 1) := by decide +kernel
theorem dX6_indexAt_1 : decode cX6_indexAt 1 = .ok (.istore_n 2, 1) := by decide +kernel
theorem dX6_indexAt_2 : decode cX6_indexAt 2 = .ok (.iload_n 2, 1) := by decide +kernel
theorem dX6_indexAt_3 : decode cX6_indexAt 3 = .ok (.aload_n 0, 1) := by decide +kernel
theorem dX6_indexAt_4 : decode cX6_indexAt 4 = .ok (.getfield 18, 3) := by decide +kernel
theorem dX6_indexAt_7 : decode cX6_indexAt 7 = .ok (.if_icmp .ge 21, 3) := by decide +kernel
theorem dX6_indexAt_10 : decode cX6_indexAt 10 = .ok (.aload_n 0, 1) := by decide +kernel
theorem dX6_indexAt_11 : decode cX6_indexAt 11 = .ok (.getfield 9, 3) := by decide +kernel
theorem dX6_indexAt_14 : decode cX6_indexAt 14 = .ok (.iload_n 2, 1) := by decide +kernel
theorem dX6_indexAt_15 : decode cX6_indexAt 15 = .ok (.iaload, 1) := by decide +kernel
theorem dX6_indexAt_16 : decode cX6_indexAt 16 = .ok (.iload_n 1, 1) := by decide +kernel
theorem dX6_indexAt_17 : decode cX6_indexAt 17 = .ok (.if_icmp .ne 5, 3) := by decide +kernel
theorem dX6_indexAt_20 : decode cX6_indexAt 20 = .ok (.iload_n 2, 1) := by decide +kernel
theorem dX6_indexAt_21 : decode cX6_indexAt 21 = .ok (.ireturn, 1) := by decide +kernel
theorem dX6_indexAt_22 : decode cX6_indexAt 22 = .ok (.iinc 2 1, 3) := by decide +kernel
theorem dX6_indexAt_25 : decode cX6_indexAt 25 = .ok (.goto (-23), 3) := by decide +kernel
theorem dX6_indexAt_28 : decode cX6_indexAt 28 = .ok (.iconst (-1), 1) := by decide +kernel
theorem dX6_indexAt_29 : decode cX6_indexAt 29 = .ok (.ireturn, 1) := by decide +kernel
theorem dX7_init_0 : decode cX7_init 0 = .ok (.aload_n 0, 1) := by decide +kernel
theorem dX7_init_1 : decode cX7_init 1 = .ok (.invokespecial 1, 3) := by decide +kernel
theorem dX7_init_4 : decode cX7_init 4 = .ok (.aload_n 0, 1) := by decide +kernel
theorem dX7_init_5 : decode cX7_init 5 = .ok (.new 7, 3) := by decide +kernel
theorem dX7_init_8 : decode cX7_init 8 = .ok (.dup, 1) := by decide +kernel
theorem dX7_init_9 : decode cX7_init 9 = .ok (.invokespecial 9, 3) := by decide +kernel
theorem dX7_init_12 : decode cX7_init 12 = .ok (.putfield 10, 3) := by decide +kernel
theorem dX7_init_15 : decode cX7_init 15 = .ok (.aload_n 0, 1) := by decide +kernel
theorem dX7_init_16 : decode cX7_init 16 = .ok (.new 7, 3) := by decide +kernel
theorem dX7_init_19 : decode cX7_init 19 = .ok (.dup, 1) := by decide +kernel
theorem dX7_init_20 : decode cX7_init 20 = .ok (.invokespecial 9, 3) := by decide +kernel
theorem dX7_init_23 : decode cX7_init 23 = .ok (.putfield 16, 3) := by decide +kernel
theorem dX7_init_26 : decode cX7_init 26 = .ok (.aload_n 0, 1) := by decide +kernel
theorem dX7_init_27 : decode cX7_init 27 = .ok (.new 7, 3) := by decide +kernel
theorem dX7_init_30 : decode cX7_init 30 = .ok (.dup, 1) := by decide +kernel
theorem dX7_init_31 : decode cX7_init 31 = .ok (.invokespecial 9, 3) := by decide +kernel
theorem dX7_init_34 : decode cX7_init 34 = .ok (.putfield 19, 3) := by decide +kernel
theorem dX7_init_37 : decode cX7_init 37 = .ok (.aload_n 0, 1) := by decide +kernel
theorem dX7_init_38 : decode cX7_init 38 = .ok (.new 22, 3) := by decide +kernel
theorem dX7_init_41 : decode cX7_init 41 = .ok (.dup, 1) := by decide +kernel
theorem dX7_init_42 : decode cX7_init 42 = .ok (.invokespecial 24, 3) := by decide +kernel
theorem dX7_init_45 : decode cX7_init 45 = .ok (.putfield 25, 3) := by decide +kernel
theorem dX7_init_48 : decode cX7_init 48 = .ok (.aload_n 0, 1) := by decide +kernel
theorem dX7_init_49 : decode cX7_init 49 = .ok (.new 29, 3) := by decide +kernel
theorem dX7_init_52 : decode cX7_init 52 = .ok (.dup, 1) := by decide +kernel
theorem dX7_init_53 : decode cX7_init 53 = .ok (.aload_n 0, 1) := by decide +kernel
theorem dX7_init_54 : decode cX7_init 54 = .ok (.getfield 10, 3) := by decide +kernel
theorem dX7_init_57 : decode cX7_init 57 = .ok (.invokespecial 31, 3) := by decide +kernel
theorem dX7_init_60 : decode cX7_init 60 = .ok (.putfield 34, 3) := by decide +kernel
theorem dX7_init_63 : decode cX7_init 63 = .ok (.aload_n 0, 1) := by decide +kernel
theorem dX7_init_64 : decode cX7_init 64 = .ok (.new 38, 3) := by decide +kernel
theorem dX7_init_67 : decode cX7_init 67 = .ok (.dup, 1) := by decide +kernel
theorem dX7_init_68 : decode cX7_init 68 = .ok (.invokespecial 40, 3) := by decide +kernel
theorem dX7_init_71 : decode cX7_init 71 = .ok (.putfield 41, 3) := by decide +kernel
theorem dX7_init_74 : decode cX7_init 74 = .ok (.aload_n 0, 1) := by decide +kernel
theorem dX7_init_75 : decode cX7_init 75 = .ok (.bipush 6, 2) := by decide +kernel
theorem dX7_init_77 : decode cX7_init 77 = .ok (.newarray .int, 2) := by decide +kernel
theorem dX7_init_79 : decode cX7_init 79 = .ok (.putfield 45, 3) := by decide +kernel
theorem dX7_init_82 : decode cX7_init 82 = .ok (.aload_n 0, 1) := by decide +kernel
theorem dX7_init_83 : decode cX7_init 83 = .ok (.bipush 7, 2) := by decide +kernel
theorem dX7_init_85 : decode cX7_init 85 = .ok (.newarray .int, 2) := by decide +kernel
theorem dX7_init_87 : decode cX7_init 87 = .ok (.putfield 49, 3) := by decide +kernel
theorem dX7_init_90 : decode cX7_init 90 = .ok (.aload_n 0, 1) := by decide +kernel
theorem dX7_init_91 : decode cX7_init 91 = .ok (.iconst 0, 1) := by decide +kernel
theorem dX7_init_92 : decode cX7_init 92 = .ok (.putfield 52, 3) := by decide +kernel
theorem dX7_init_95 : decode cX7_init 95 = .ok (.aload_n 0, 1) := by decide +kernel
theorem dX7_init_96 : decode cX7_init 96 = .ok (.iconst 0, 1) := by decide +kernel
theorem dX7_init_97 : decode cX7_init 97 = .ok (.putfield 56, 3) := by decide +kernel
theorem dX7_init_100 : decode cX7_init 100 = .ok (.return_, 1) := by decide +kernel
theorem dX7_letter_0 : decode cX7_letter 0 = .ok (.iload_n 1, 1) := by decide +kernel
theorem dX7_letter_1 : decode cX7_letter 1 = .ok (.ifCond .ge 10, 3) := by decide +kernel
theorem dX7_letter_4 : decode cX7_letter 4 = .ok (.aload_n 0, 1) := by decide +kernel
theorem dX7_letter_5 : decode cX7_letter 5 = .ok (.bipush (-4), 2) := by decide +kernel
theorem dX7_letter_7 : decode cX7_letter 7 = .ok (.invokevirtual 60, 3) := by decide +kernel
theorem dX7_letter_10 : decode cX7_letter 10 = .ok (.ireturn, 1) := by decide +kernel
theorem dX7_letter_11 : decode cX7_letter 11 = .ok (.iload_n 1, 1) := by decide +kernel
theorem dX7_letter_12 : decode cX7_letter 12 = .ok (.sipush 255, 3) := by decide +kernel
theorem dX7_letter_15 : decode cX7_letter 15 = .ok (.if_icmp .gt 14, 3) := by decide +kernel
theorem dX7_letter_18 : decode cX7_letter 18 = .ok (.aload_n 0, 1) := by decide +kernel
theorem dX7_letter_19 : decode cX7_letter 19 = .ok (.getfield 25, 3) := by decide +kernel
theorem dX7_letter_22 : decode cX7_letter 22 = .ok (.iload_n 1, 1) := by decide +kernel
theorem dX7_letter_23 : decode cX7_letter 23 = .ok (.invokevirtual 64, 3) := by decide +kernel
theorem dX7_letter_26 : decode cX7_letter 26 = .ok (.ifCond .ne 10, 3) := by decide +kernel
theorem dX7_letter_29 : decode cX7_letter 29 = .ok (.aload_n 0, 1) := by decide +kernel
theorem dX7_letter_30 : decode cX7_letter 30 = .ok (.bipush (-6), 2) := by decide +kernel
theorem dX7_letter_32 : decode cX7_letter 32 = .ok (.invokevirtual 60, 3) := by decide +kernel
theorem dX7_letter_35 : decode cX7_letter 35 = .ok (.ireturn, 1) := by decide +kernel
theorem dX7_letter_36 : decode cX7_letter 36 = .ok (.aload_n 0, 1) := by decide +kernel
theorem dX7_letter_37 : decode cX7_letter 37 = .ok (.getfield 25, 3) := by decide +kernel
theorem dX7_letter_40 : decode cX7_letter 40 = .ok (.getfield 68, 3) := by decide +kernel
theorem dX7_letter_43 : decode cX7_letter 43 = .ok (.ireturn, 1) := by decide +kernel
theorem dX7_town_0 : decode cX7_town 0 = .ok (.aload_n 0, 1) := by decide +kernel
theorem dX7_town_1 : decode cX7_town 1 = .ok (.getfield 25, 3) := by decide +kernel
theorem dX7_town_4 : decode cX7_town 4 = .ok (.invokevirtual 71, 3) := by decide +kernel
theorem dX7_town_7 : decode cX7_town 7 = .ok (.istore_n 1, 1) := by decide +kernel
theorem dX7_town_8 : decode cX7_town 8 = .ok (.iload_n 1, 1) := by decide +kernel
theorem dX7_town_9 : decode cX7_town 9 = .ok (.ifCond .ge 10, 3) := by decide +kernel
theorem dX7_town_12 : decode cX7_town 12 = .ok (.aload_n 0, 1) := by decide +kernel
theorem dX7_town_13 : decode cX7_town 13 = .ok (.invokevirtual 75, 3) := by decide +kernel
theorem dX7_town_16 : decode cX7_town 16 = .ok (.goto 8, 3) := by decide +kernel
theorem dX7_town_19 : decode cX7_town 19 = .ok (.sipush (-1000), 3) := by decide +kernel
theorem dX7_town_22 : decode cX7_town 22 = .ok (.iload_n 1, 1) := by decide +kernel
theorem dX7_town_23 : decode cX7_town 23 = .ok (.isub, 1) := by decide +kernel
theorem dX7_town_24 : decode cX7_town 24 = .ok (.istore_n 2, 1) := by decide +kernel
theorem dX7_town_25 : decode cX7_town 25 = .ok (.aload_n 0, 1) := by decide +kernel
theorem dX7_town_26 : decode cX7_town 26 = .ok (.getfield 25, 3) := by decide +kernel
theorem dX7_town_29 : decode cX7_town 29 = .ok (.iconst 0, 1) := by decide +kernel
theorem dX7_town_30 : decode cX7_town 30 = .ok (.putfield 68, 3) := by decide +kernel
theorem dX7_town_33 : decode cX7_town 33 = .ok (.iload_n 2, 1) := by decide +kernel
theorem dX7_town_34 : decode cX7_town 34 = .ok (.ireturn, 1) := by decide +kernel
theorem dX7_minutes_0 : decode cX7_minutes 0 = .ok (.aload_n 0, 1) := by decide +kernel
theorem dX7_minutes_1 : decode cX7_minutes 1 = .ok (.getfield 10, 3) := by decide +kernel
theorem dX7_minutes_4 : decode cX7_minutes 4 = .ok (.iload_n 1, 1) := by decide +kernel
theorem dX7_minutes_5 : decode cX7_minutes 5 = .ok (.invokevirtual 78, 3) := by decide +kernel
theorem dX7_minutes_8 : decode cX7_minutes 8 = .ok (.ifCond .eq 14, 3) := by decide +kernel
theorem dX7_minutes_11 : decode cX7_minutes 11 = .ok (.aload_n 0, 1) := by decide +kernel
theorem dX7_minutes_12 : decode cX7_minutes 12 = .ok (.getfield 10, 3) := by decide +kernel
theorem dX7_minutes_15 : decode cX7_minutes 15 = .ok (.iload_n 2, 1) := by decide +kernel
theorem dX7_minutes_16 : decode cX7_minutes 16 = .ok (.invokevirtual 78, 3) := by decide +kernel
theorem dX7_minutes_19 : decode cX7_minutes 19 = .ok (.ifCond .ne 9, 3) := by decide +kernel
theorem dX7_minutes_22 : decode cX7_minutes 22 = .ok (.aload_n 0, 1) := by decide +kernel
theorem dX7_minutes_23 : decode cX7_minutes 23 = .ok (.iconst (-1), 1) := by decide +kernel
theorem dX7_minutes_24 : decode cX7_minutes 24 = .ok (.invokevirtual 60, 3) := by decide +kernel
theorem dX7_minutes_27 : decode cX7_minutes 27 = .ok (.ireturn, 1) := by decide +kernel
theorem dX7_minutes_28 : decode cX7_minutes 28 = .ok (.aload_n 0, 1) := by decide +kernel
theorem dX7_minutes_29 : decode cX7_minutes 29 = .ok (.getfield 10, 3) := by decide +kernel
theorem dX7_minutes_32 : decode cX7_minutes 32 = .ok (.iload_n 1, 1) := by decide +kernel
theorem dX7_minutes_33 : decode cX7_minutes 33 = .ok (.iload_n 2, 1) := by decide +kernel
theorem dX7_minutes_34 : decode cX7_minutes 34 = .ok (.invokevirtual 81, 3) := by decide +kernel
theorem dX7_minutes_37 : decode cX7_minutes 37 = .ok (.istore_n 3, 1) := by decide +kernel
theorem dX7_minutes_38 : decode cX7_minutes 38 = .ok (.iload_n 3, 1) := by decide +kernel
theorem dX7_minutes_39 : decode cX7_minutes 39 = .ok (.ldc 85, 2) := by decide +kernel
theorem dX7_minutes_41 : decode cX7_minutes 41 = .ok (.if_icmp .lt 8, 3) := by decide +kernel
theorem dX7_minutes_44 : decode cX7_minutes 44 = .ok (.bipush (-9), 2) := by decide +kernel
theorem dX7_minutes_46 : decode cX7_minutes 46 = .ok (.goto 4, 3) := by decide +kernel
theorem dX7_minutes_49 : decode cX7_minutes 49 = .ok (.iload_n 3, 1) := by decide +kernel
theorem dX7_minutes_50 : decode cX7_minutes 50 = .ok (.ireturn, 1) := by decide +kernel
theorem dX7_person_0 : decode cX7_person 0 = .ok (.aload_n 0, 1) := by decide +kernel
theorem dX7_person_1 : decode cX7_person 1 = .ok (.getfield 10, 3) := by decide +kernel
theorem dX7_person_4 : decode cX7_person 4 = .ok (.iload_n 1, 1) := by decide +kernel
theorem dX7_person_5 : decode cX7_person 5 = .ok (.invokevirtual 86, 3) := by decide +kernel
theorem dX7_person_8 : decode cX7_person 8 = .ok (.ifCond .ne 9, 3) := by decide +kernel
theorem dX7_person_11 : decode cX7_person 11 = .ok (.aload_n 0, 1) := by decide +kernel
theorem dX7_person_12 : decode cX7_person 12 = .ok (.iconst (-1), 1) := by decide +kernel
theorem dX7_person_13 : decode cX7_person 13 = .ok (.invokevirtual 60, 3) := by decide +kernel
theorem dX7_person_16 : decode cX7_person 16 = .ok (.ireturn, 1) := by decide +kernel
theorem dX7_person_17 : decode cX7_person 17 = .ok (.iload_n 2, 1) := by decide +kernel
theorem dX7_person_18 : decode cX7_person 18 = .ok (.ifCond .lt 9, 3) := by decide +kernel
theorem dX7_person_21 : decode cX7_person 21 = .ok (.iload_n 2, 1) := by decide +kernel
theorem dX7_person_22 : decode cX7_person 22 = .ok (.bipush 7, 2) := by decide +kernel
theorem dX7_person_24 : decode cX7_person 24 = .ok (.if_icmp .le 10, 3) := by decide +kernel
theorem dX7_person_27 : decode cX7_person 27 = .ok (.aload_n 0, 1) := by decide +kernel
theorem dX7_person_28 : decode cX7_person 28 = .ok (.bipush (-2), 2) := by decide +kernel
theorem dX7_person_30 : decode cX7_person 30 = .ok (.invokevirtual 60, 3) := by decide +kernel
theorem dX7_person_33 : decode cX7_person 33 = .ok (.ireturn, 1) := by decide +kernel
theorem dX7_person_34 : decode cX7_person 34 = .ok (.iload_n 2, 1) := by decide +kernel
theorem dX7_person_35 : decode cX7_person 35 = .ok (.bipush 7, 2) := by decide +kernel
theorem dX7_person_37 : decode cX7_person 37 = .ok (.if_icmp .ne 14, 3) := by decide +kernel
theorem dX7_person_40 : decode cX7_person 40 = .ok (.aload_n 0, 1) := by decide +kernel
theorem dX7_person_41 : decode cX7_person 41 = .ok (.getfield 10, 3) := by decide +kernel
theorem dX7_person_44 : decode cX7_person 44 = .ok (.iload_n 1, 1) := by decide +kernel
theorem dX7_person_45 : decode cX7_person 45 = .ok (.invokevirtual 89, 3) := by decide +kernel
theorem dX7_person_48 : decode cX7_person 48 = .ok (.goto 16, 3) := by decide +kernel
theorem dX7_person_51 : decode cX7_person 51 = .ok (.aload_n 0, 1) := by decide +kernel
theorem dX7_person_52 : decode cX7_person 52 = .ok (.getfield 10, 3) := by decide +kernel
theorem dX7_person_55 : decode cX7_person 55 = .ok (.getfield 92, 3) := by decide +kernel
theorem dX7_person_58 : decode cX7_person 58 = .ok (.iload_n 1, 1) := by decide +kernel
theorem dX7_person_59 : decode cX7_person 59 = .ok (.aaload, 1) := by decide +kernel
theorem dX7_person_60 : decode cX7_person 60 = .ok (.iload_n 2, 1) := by decide +kernel
theorem dX7_person_61 : decode cX7_person 61 = .ok (.invokevirtual 96, 3) := by decide +kernel
theorem dX7_person_64 : decode cX7_person 64 = .ok (.ireturn, 1) := by decide +kernel
theorem dX7_thing_0 : decode cX7_thing 0 = .ok (.aload_n 0, 1) := by decide +kernel
theorem dX7_thing_1 : decode cX7_thing 1 = .ok (.getfield 10, 3) := by decide +kernel
theorem dX7_thing_4 : decode cX7_thing 4 = .ok (.iload_n 1, 1) := by decide +kernel
theorem dX7_thing_5 : decode cX7_thing 5 = .ok (.invokevirtual 101, 3) := by decide +kernel
theorem dX7_thing_8 : decode cX7_thing 8 = .ok (.ifCond .ne 9, 3) := by decide +kernel
theorem dX7_thing_11 : decode cX7_thing 11 = .ok (.aload_n 0, 1) := by decide +kernel
theorem dX7_thing_12 : decode cX7_thing 12 = .ok (.iconst (-1), 1) := by decide +kernel
theorem dX7_thing_13 : decode cX7_thing 13 = .ok (.invokevirtual 60, 3) := by decide +kernel
theorem dX7_thing_16 : decode cX7_thing 16 = .ok (.ireturn, 1) := by decide +kernel
theorem dX7_thing_17 : decode cX7_thing 17 = .ok (.iload_n 2, 1) := by decide +kernel
theorem dX7_thing_18 : decode cX7_thing 18 = .ok (.ifCond .lt 9, 3) := by decide +kernel
theorem dX7_thing_21 : decode cX7_thing 21 = .ok (.iload_n 2, 1) := by decide +kernel
theorem dX7_thing_22 : decode cX7_thing 22 = .ok (.bipush 9, 2) := by decide +kernel
theorem dX7_thing_24 : decode cX7_thing 24 = .ok (.if_icmp .le 10, 3) := by decide +kernel
theorem dX7_thing_27 : decode cX7_thing 27 = .ok (.aload_n 0, 1) := by decide +kernel
theorem dX7_thing_28 : decode cX7_thing 28 = .ok (.bipush (-2), 2) := by decide +kernel
theorem dX7_thing_30 : decode cX7_thing 30 = .ok (.invokevirtual 60, 3) := by decide +kernel
theorem dX7_thing_33 : decode cX7_thing 33 = .ok (.ireturn, 1) := by decide +kernel
theorem dX7_thing_34 : decode cX7_thing 34 = .ok (.aload_n 0, 1) := by decide +kernel
theorem dX7_thing_35 : decode cX7_thing 35 = .ok (.getfield 10, 3) := by decide +kernel
theorem dX7_thing_38 : decode cX7_thing 38 = .ok (.getfield 104, 3) := by decide +kernel
theorem dX7_thing_41 : decode cX7_thing 41 = .ok (.iload_n 1, 1) := by decide +kernel
theorem dX7_thing_42 : decode cX7_thing 42 = .ok (.aaload, 1) := by decide +kernel
theorem dX7_thing_43 : decode cX7_thing 43 = .ok (.iload_n 2, 1) := by decide +kernel
theorem dX7_thing_44 : decode cX7_thing 44 = .ok (.invokevirtual 108, 3) := by decide +kernel
theorem dX7_thing_47 : decode cX7_thing 47 = .ok (.ireturn, 1) := by decide +kernel
theorem dX7_law_0 : decode cX7_law 0 = .ok (.iload_n 1, 1) := by decide +kernel
theorem dX7_law_1 : decode cX7_law 1 = .ok (.ifCond .lt 8, 3) := by decide +kernel
theorem dX7_law_4 : decode cX7_law 4 = .ok (.iload_n 1, 1) := by decide +kernel
theorem dX7_law_5 : decode cX7_law 5 = .ok (.iconst 4, 1) := by decide +kernel
theorem dX7_law_6 : decode cX7_law 6 = .ok (.if_icmp .le 10, 3) := by decide +kernel
theorem dX7_law_9 : decode cX7_law 9 = .ok (.aload_n 0, 1) := by decide +kernel
theorem dX7_law_10 : decode cX7_law 10 = .ok (.bipush (-2), 2) := by decide +kernel
theorem dX7_law_12 : decode cX7_law 12 = .ok (.invokevirtual 60, 3) := by decide +kernel
theorem dX7_law_15 : decode cX7_law 15 = .ok (.ireturn, 1) := by decide +kernel
theorem dX7_law_16 : decode cX7_law 16 = .ok (.aload_n 0, 1) := by decide +kernel
theorem dX7_law_17 : decode cX7_law 17 = .ok (.getfield 10, 3) := by decide +kernel
theorem dX7_law_20 : decode cX7_law 20 = .ok (.getfield 111, 3) := by decide +kernel
theorem dX7_law_23 : decode cX7_law 23 = .ok (.istore_n 2, 1) := by decide +kernel
theorem dX7_law_24 : decode cX7_law 24 = .ok (.aload_n 0, 1) := by decide +kernel
theorem dX7_law_25 : decode cX7_law 25 = .ok (.getfield 10, 3) := by decide +kernel
theorem dX7_law_28 : decode cX7_law 28 = .ok (.iload_n 1, 1) := by decide +kernel
theorem dX7_law_29 : decode cX7_law 29 = .ok (.putfield 111, 3) := by decide +kernel
theorem dX7_law_32 : decode cX7_law 32 = .ok (.iload_n 2, 1) := by decide +kernel
theorem dX7_law_33 : decode cX7_law 33 = .ok (.ireturn, 1) := by decide +kernel
theorem dX7_may_0 : decode cX7_may 0 = .ok (.aload_n 0, 1) := by decide +kernel
theorem dX7_may_1 : decode cX7_may 1 = .ok (.getfield 10, 3) := by decide +kernel
theorem dX7_may_4 : decode cX7_may 4 = .ok (.iload_n 1, 1) := by decide +kernel
theorem dX7_may_5 : decode cX7_may 5 = .ok (.invokevirtual 86, 3) := by decide +kernel
theorem dX7_may_8 : decode cX7_may 8 = .ok (.ifCond .eq 14, 3) := by decide +kernel
theorem dX7_may_11 : decode cX7_may 11 = .ok (.aload_n 0, 1) := by decide +kernel
theorem dX7_may_12 : decode cX7_may 12 = .ok (.getfield 10, 3) := by decide +kernel
theorem dX7_may_15 : decode cX7_may 15 = .ok (.iload_n 2, 1) := by decide +kernel
theorem dX7_may_16 : decode cX7_may 16 = .ok (.invokevirtual 101, 3) := by decide +kernel
theorem dX7_may_19 : decode cX7_may 19 = .ok (.ifCond .ne 9, 3) := by decide +kernel
theorem dX7_may_22 : decode cX7_may 22 = .ok (.aload_n 0, 1) := by decide +kernel
theorem dX7_may_23 : decode cX7_may 23 = .ok (.iconst (-1), 1) := by decide +kernel
theorem dX7_may_24 : decode cX7_may 24 = .ok (.invokevirtual 60, 3) := by decide +kernel
theorem dX7_may_27 : decode cX7_may 27 = .ok (.ireturn, 1) := by decide +kernel
theorem dX7_may_28 : decode cX7_may 28 = .ok (.iload_n 3, 1) := by decide +kernel
theorem dX7_may_29 : decode cX7_may 29 = .ok (.ifCond .ge 10, 3) := by decide +kernel
theorem dX7_may_32 : decode cX7_may 32 = .ok (.aload_n 0, 1) := by decide +kernel
theorem dX7_may_33 : decode cX7_may 33 = .ok (.bipush (-4), 2) := by decide +kernel
theorem dX7_may_35 : decode cX7_may 35 = .ok (.invokevirtual 60, 3) := by decide +kernel
theorem dX7_may_38 : decode cX7_may 38 = .ok (.ireturn, 1) := by decide +kernel
theorem dX7_may_39 : decode cX7_may 39 = .ok (.iload_n 3, 1) := by decide +kernel
theorem dX7_may_40 : decode cX7_may 40 = .ok (.sipush 9999, 3) := by decide +kernel
theorem dX7_may_43 : decode cX7_may 43 = .ok (.if_icmp .le 10, 3) := by decide +kernel
theorem dX7_may_46 : decode cX7_may 46 = .ok (.aload_n 0, 1) := by decide +kernel
theorem dX7_may_47 : decode cX7_may 47 = .ok (.bipush (-6), 2) := by decide +kernel
theorem dX7_may_49 : decode cX7_may 49 = .ok (.invokevirtual 60, 3) := by decide +kernel
theorem dX7_may_52 : decode cX7_may 52 = .ok (.ireturn, 1) := by decide +kernel
theorem dX7_may_53 : decode cX7_may 53 = .ok (.aload_n 0, 1) := by decide +kernel
theorem dX7_may_54 : decode cX7_may 54 = .ok (.getfield 10, 3) := by decide +kernel
theorem dX7_may_57 : decode cX7_may 57 = .ok (.iload_n 1, 1) := by decide +kernel
theorem dX7_may_58 : decode cX7_may 58 = .ok (.iload_n 2, 1) := by decide +kernel
theorem dX7_may_59 : decode cX7_may 59 = .ok (.iload_n 3, 1) := by decide +kernel
theorem dX7_may_60 : decode cX7_may 60 = .ok (.invokevirtual 114, 3) := by decide +kernel
theorem dX7_may_63 : decode cX7_may 63 = .ok (.ifCond .eq 7, 3) := by decide +kernel
theorem dX7_may_66 : decode cX7_may 66 = .ok (.iconst 1, 1) := by decide +kernel
theorem dX7_may_67 : decode cX7_may 67 = .ok (.goto 4, 3) := by decide +kernel
theorem dX7_may_70 : decode cX7_may 70 = .ok (.iconst 0, 1) := by decide +kernel
theorem dX7_may_71 : decode cX7_may 71 = .ok (.ireturn, 1) := by decide +kernel
theorem dX7_take_0 : decode cX7_take 0 = .ok (.aload_n 0, 1) := by decide +kernel
theorem dX7_take_1 : decode cX7_take 1 = .ok (.getfield 10, 3) := by decide +kernel
theorem dX7_take_4 : decode cX7_take 4 = .ok (.iload_n 1, 1) := by decide +kernel
theorem dX7_take_5 : decode cX7_take 5 = .ok (.invokevirtual 86, 3) := by decide +kernel
theorem dX7_take_8 : decode cX7_take 8 = .ok (.ifCond .eq 14, 3) := by decide +kernel
theorem dX7_take_11 : decode cX7_take 11 = .ok (.aload_n 0, 1) := by decide +kernel
theorem dX7_take_12 : decode cX7_take 12 = .ok (.getfield 10, 3) := by decide +kernel
theorem dX7_take_15 : decode cX7_take 15 = .ok (.iload_n 2, 1) := by decide +kernel
theorem dX7_take_16 : decode cX7_take 16 = .ok (.invokevirtual 101, 3) := by decide +kernel
theorem dX7_take_19 : decode cX7_take 19 = .ok (.ifCond .ne 9, 3) := by decide +kernel
theorem dX7_take_22 : decode cX7_take 22 = .ok (.aload_n 0, 1) := by decide +kernel
theorem dX7_take_23 : decode cX7_take 23 = .ok (.iconst (-1), 1) := by decide +kernel
theorem dX7_take_24 : decode cX7_take 24 = .ok (.invokevirtual 60, 3) := by decide +kernel
theorem dX7_take_27 : decode cX7_take 27 = .ok (.ireturn, 1) := by decide +kernel
theorem dX7_take_28 : decode cX7_take 28 = .ok (.aload_n 0, 1) := by decide +kernel
theorem dX7_take_29 : decode cX7_take 29 = .ok (.getfield 10, 3) := by decide +kernel
theorem dX7_take_32 : decode cX7_take 32 = .ok (.iload_n 1, 1) := by decide +kernel
theorem dX7_take_33 : decode cX7_take 33 = .ok (.iload_n 2, 1) := by decide +kernel
theorem dX7_take_34 : decode cX7_take 34 = .ok (.invokevirtual 118, 3) := by decide +kernel
theorem dX7_take_37 : decode cX7_take 37 = .ok (.ifCond .eq 18, 3) := by decide +kernel
theorem dX7_take_40 : decode cX7_take 40 = .ok (.aload_n 0, 1) := by decide +kernel
theorem dX7_take_41 : decode cX7_take 41 = .ok (.getfield 10, 3) := by decide +kernel
theorem dX7_take_44 : decode cX7_take 44 = .ok (.getfield 92, 3) := by decide +kernel
theorem dX7_take_47 : decode cX7_take 47 = .ok (.iload_n 1, 1) := by decide +kernel
theorem dX7_take_48 : decode cX7_take 48 = .ok (.aaload, 1) := by decide +kernel
theorem dX7_take_49 : decode cX7_take 49 = .ok (.getfield 122, 3) := by decide +kernel
theorem dX7_take_52 : decode cX7_take 52 = .ok (.goto 9, 3) := by decide +kernel
theorem dX7_take_55 : decode cX7_take 55 = .ok (.aload_n 0, 1) := by decide +kernel
theorem dX7_take_56 : decode cX7_take 56 = .ok (.bipush (-3), 2) := by decide +kernel
theorem dX7_take_58 : decode cX7_take 58 = .ok (.invokevirtual 60, 3) := by decide +kernel
theorem dX7_take_61 : decode cX7_take 61 = .ok (.ireturn, 1) := by decide +kernel
theorem dX7_go_0 : decode cX7_go 0 = .ok (.aload_n 0, 1) := by decide +kernel
theorem dX7_go_1 : decode cX7_go 1 = .ok (.getfield 10, 3) := by decide +kernel
theorem dX7_go_4 : decode cX7_go 4 = .ok (.iload_n 1, 1) := by decide +kernel
theorem dX7_go_5 : decode cX7_go 5 = .ok (.invokevirtual 86, 3) := by decide +kernel
theorem dX7_go_8 : decode cX7_go 8 = .ok (.ifCond .eq 14, 3) := by decide +kernel
theorem dX7_go_11 : decode cX7_go 11 = .ok (.aload_n 0, 1) := by decide +kernel
theorem dX7_go_12 : decode cX7_go 12 = .ok (.getfield 10, 3) := by decide +kernel
theorem dX7_go_15 : decode cX7_go 15 = .ok (.iload_n 2, 1) := by decide +kernel
theorem dX7_go_16 : decode cX7_go 16 = .ok (.invokevirtual 78, 3) := by decide +kernel
theorem dX7_go_19 : decode cX7_go 19 = .ok (.ifCond .ne 9, 3) := by decide +kernel
theorem dX7_go_22 : decode cX7_go 22 = .ok (.aload_n 0, 1) := by decide +kernel
theorem dX7_go_23 : decode cX7_go 23 = .ok (.iconst (-1), 1) := by decide +kernel
theorem dX7_go_24 : decode cX7_go 24 = .ok (.invokevirtual 60, 3) := by decide +kernel
theorem dX7_go_27 : decode cX7_go 27 = .ok (.ireturn, 1) := by decide +kernel
theorem dX7_go_28 : decode cX7_go 28 = .ok (.aload_n 0, 1) := by decide +kernel
theorem dX7_go_29 : decode cX7_go 29 = .ok (.getfield 10, 3) := by decide +kernel
theorem dX7_go_32 : decode cX7_go 32 = .ok (.iload_n 1, 1) := by decide +kernel
theorem dX7_go_33 : decode cX7_go 33 = .ok (.iload_n 2, 1) := by decide +kernel
theorem dX7_go_34 : decode cX7_go 34 = .ok (.invokevirtual 125, 3) := by decide +kernel
theorem dX7_go_37 : decode cX7_go 37 = .ok (.ifCond .eq 18, 3) := by decide +kernel
theorem dX7_go_40 : decode cX7_go 40 = .ok (.aload_n 0, 1) := by decide +kernel
theorem dX7_go_41 : decode cX7_go 41 = .ok (.getfield 10, 3) := by decide +kernel
theorem dX7_go_44 : decode cX7_go 44 = .ok (.getfield 92, 3) := by decide +kernel
theorem dX7_go_47 : decode cX7_go 47 = .ok (.iload_n 1, 1) := by decide +kernel
theorem dX7_go_48 : decode cX7_go 48 = .ok (.aaload, 1) := by decide +kernel
theorem dX7_go_49 : decode cX7_go 49 = .ok (.getfield 122, 3) := by decide +kernel
theorem dX7_go_52 : decode cX7_go 52 = .ok (.goto 9, 3) := by decide +kernel
theorem dX7_go_55 : decode cX7_go 55 = .ok (.aload_n 0, 1) := by decide +kernel
theorem dX7_go_56 : decode cX7_go 56 = .ok (.bipush (-3), 2) := by decide +kernel
theorem dX7_go_58 : decode cX7_go 58 = .ok (.invokevirtual 60, 3) := by decide +kernel
theorem dX7_go_61 : decode cX7_go 61 = .ok (.ireturn, 1) := by decide +kernel
theorem dX7_lay_0 : decode cX7_lay 0 = .ok (.aload_n 0, 1) := by decide +kernel
theorem dX7_lay_1 : decode cX7_lay 1 = .ok (.getfield 10, 3) := by decide +kernel
theorem dX7_lay_4 : decode cX7_lay 4 = .ok (.iload_n 1, 1) := by decide +kernel
theorem dX7_lay_5 : decode cX7_lay 5 = .ok (.invokevirtual 86, 3) := by decide +kernel
theorem dX7_lay_8 : decode cX7_lay 8 = .ok (.ifCond .eq 14, 3) := by decide +kernel
theorem dX7_lay_11 : decode cX7_lay 11 = .ok (.aload_n 0, 1) := by decide +kernel
theorem dX7_lay_12 : decode cX7_lay 12 = .ok (.getfield 10, 3) := by decide +kernel
theorem dX7_lay_15 : decode cX7_lay 15 = .ok (.iload_n 2, 1) := by decide +kernel
theorem dX7_lay_16 : decode cX7_lay 16 = .ok (.invokevirtual 101, 3) := by decide +kernel
theorem dX7_lay_19 : decode cX7_lay 19 = .ok (.ifCond .ne 9, 3) := by decide +kernel
theorem dX7_lay_22 : decode cX7_lay 22 = .ok (.aload_n 0, 1) := by decide +kernel
theorem dX7_lay_23 : decode cX7_lay 23 = .ok (.iconst (-1), 1) := by decide +kernel
theorem dX7_lay_24 : decode cX7_lay 24 = .ok (.invokevirtual 60, 3) := by decide +kernel
theorem dX7_lay_27 : decode cX7_lay 27 = .ok (.ireturn, 1) := by decide +kernel
theorem dX7_lay_28 : decode cX7_lay 28 = .ok (.aload_n 0, 1) := by decide +kernel
theorem dX7_lay_29 : decode cX7_lay 29 = .ok (.getfield 10, 3) := by decide +kernel
theorem dX7_lay_32 : decode cX7_lay 32 = .ok (.iload_n 1, 1) := by decide +kernel
theorem dX7_lay_33 : decode cX7_lay 33 = .ok (.iload_n 2, 1) := by decide +kernel
theorem dX7_lay_34 : decode cX7_lay 34 = .ok (.invokevirtual 128, 3) := by decide +kernel
theorem dX7_lay_37 : decode cX7_lay 37 = .ok (.ifCond .eq 18, 3) := by decide +kernel
theorem dX7_lay_40 : decode cX7_lay 40 = .ok (.aload_n 0, 1) := by decide +kernel
theorem dX7_lay_41 : decode cX7_lay 41 = .ok (.getfield 10, 3) := by decide +kernel
theorem dX7_lay_44 : decode cX7_lay 44 = .ok (.getfield 92, 3) := by decide +kernel
theorem dX7_lay_47 : decode cX7_lay 47 = .ok (.iload_n 1, 1) := by decide +kernel
theorem dX7_lay_48 : decode cX7_lay 48 = .ok (.aaload, 1) := by decide +kernel
theorem dX7_lay_49 : decode cX7_lay 49 = .ok (.getfield 122, 3) := by decide +kernel
theorem dX7_lay_52 : decode cX7_lay 52 = .ok (.goto 9, 3) := by decide +kernel
theorem dX7_lay_55 : decode cX7_lay 55 = .ok (.aload_n 0, 1) := by decide +kernel
theorem dX7_lay_56 : decode cX7_lay 56 = .ok (.bipush (-3), 2) := by decide +kernel
theorem dX7_lay_58 : decode cX7_lay 58 = .ok (.invokevirtual 60, 3) := by decide +kernel
theorem dX7_lay_61 : decode cX7_lay 61 = .ok (.ireturn, 1) := by decide +kernel
theorem dX7_hand_0 : decode cX7_hand 0 = .ok (.aload_n 0, 1) := by decide +kernel
theorem dX7_hand_1 : decode cX7_hand 1 = .ok (.getfield 10, 3) := by decide +kernel
theorem dX7_hand_4 : decode cX7_hand 4 = .ok (.iload_n 1, 1) := by decide +kernel
theorem dX7_hand_5 : decode cX7_hand 5 = .ok (.invokevirtual 86, 3) := by decide +kernel
theorem dX7_hand_8 : decode cX7_hand 8 = .ok (.ifCond .eq 30, 3) := by decide +kernel
theorem dX7_hand_11 : decode cX7_hand 11 = .ok (.aload_n 0, 1) := by decide +kernel
theorem dX7_hand_12 : decode cX7_hand 12 = .ok (.getfield 10, 3) := by decide +kernel
theorem dX7_hand_15 : decode cX7_hand 15 = .ok (.iload_n 2, 1) := by decide +kernel
theorem dX7_hand_16 : decode cX7_hand 16 = .ok (.invokevirtual 86, 3) := by decide +kernel
theorem dX7_hand_19 : decode cX7_hand 19 = .ok (.ifCond .eq 19, 3) := by decide +kernel
theorem dX7_hand_22 : decode cX7_hand 22 = .ok (.iload_n 1, 1) := by decide +kernel
theorem dX7_hand_23 : decode cX7_hand 23 = .ok (.iload_n 2, 1) := by decide +kernel
theorem dX7_hand_24 : decode cX7_hand 24 = .ok (.if_icmp .eq 14, 3) := by decide +kernel
theorem dX7_hand_27 : decode cX7_hand 27 = .ok (.aload_n 0, 1) := by decide +kernel
theorem dX7_hand_28 : decode cX7_hand 28 = .ok (.getfield 10, 3) := by decide +kernel
theorem dX7_hand_31 : decode cX7_hand 31 = .ok (.iload_n 3, 1) := by decide +kernel
theorem dX7_hand_32 : decode cX7_hand 32 = .ok (.invokevirtual 101, 3) := by decide +kernel
theorem dX7_hand_35 : decode cX7_hand 35 = .ok (.ifCond .ne 9, 3) := by decide +kernel
theorem dX7_hand_38 : decode cX7_hand 38 = .ok (.aload_n 0, 1) := by decide +kernel
theorem dX7_hand_39 : decode cX7_hand 39 = .ok (.iconst (-1), 1) := by decide +kernel
theorem dX7_hand_40 : decode cX7_hand 40 = .ok (.invokevirtual 60, 3) := by decide +kernel
theorem dX7_hand_43 : decode cX7_hand 43 = .ok (.ireturn, 1) := by decide +kernel
theorem dX7_hand_44 : decode cX7_hand 44 = .ok (.aload_n 0, 1) := by decide +kernel
theorem dX7_hand_45 : decode cX7_hand 45 = .ok (.getfield 10, 3) := by decide +kernel
theorem dX7_hand_48 : decode cX7_hand 48 = .ok (.iload_n 1, 1) := by decide +kernel
theorem dX7_hand_49 : decode cX7_hand 49 = .ok (.iload_n 2, 1) := by decide +kernel
theorem dX7_hand_50 : decode cX7_hand 50 = .ok (.iload_n 3, 1) := by decide +kernel
theorem dX7_hand_51 : decode cX7_hand 51 = .ok (.invokevirtual 131, 3) := by decide +kernel
theorem dX7_hand_54 : decode cX7_hand 54 = .ok (.ifCond .eq 18, 3) := by decide +kernel
theorem dX7_hand_57 : decode cX7_hand 57 = .ok (.aload_n 0, 1) := by decide +kernel
theorem dX7_hand_58 : decode cX7_hand 58 = .ok (.getfield 10, 3) := by decide +kernel
theorem dX7_hand_61 : decode cX7_hand 61 = .ok (.getfield 92, 3) := by decide +kernel
theorem dX7_hand_64 : decode cX7_hand 64 = .ok (.iload_n 1, 1) := by decide +kernel
theorem dX7_hand_65 : decode cX7_hand 65 = .ok (.aaload, 1) := by decide +kernel
theorem dX7_hand_66 : decode cX7_hand 66 = .ok (.getfield 122, 3) := by decide +kernel
theorem dX7_hand_69 : decode cX7_hand 69 = .ok (.goto 9, 3) := by decide +kernel
theorem dX7_hand_72 : decode cX7_hand 72 = .ok (.aload_n 0, 1) := by decide +kernel
theorem dX7_hand_73 : decode cX7_hand 73 = .ok (.bipush (-3), 2) := by decide +kernel
theorem dX7_hand_75 : decode cX7_hand 75 = .ok (.invokevirtual 60, 3) := by decide +kernel
theorem dX7_hand_78 : decode cX7_hand 78 = .ok (.ireturn, 1) := by decide +kernel
theorem dX7_tarry_0 : decode cX7_tarry 0 = .ok (.aload_n 0, 1) := by decide +kernel
theorem dX7_tarry_1 : decode cX7_tarry 1 = .ok (.getfield 10, 3) := by decide +kernel
theorem dX7_tarry_4 : decode cX7_tarry 4 = .ok (.iload_n 1, 1) := by decide +kernel
theorem dX7_tarry_5 : decode cX7_tarry 5 = .ok (.invokevirtual 86, 3) := by decide +kernel
theorem dX7_tarry_8 : decode cX7_tarry 8 = .ok (.ifCond .ne 9, 3) := by decide +kernel
theorem dX7_tarry_11 : decode cX7_tarry 11 = .ok (.aload_n 0, 1) := by decide +kernel
theorem dX7_tarry_12 : decode cX7_tarry 12 = .ok (.iconst (-1), 1) := by decide +kernel
theorem dX7_tarry_13 : decode cX7_tarry 13 = .ok (.invokevirtual 60, 3) := by decide +kernel
theorem dX7_tarry_16 : decode cX7_tarry 16 = .ok (.ireturn, 1) := by decide +kernel
theorem dX7_tarry_17 : decode cX7_tarry 17 = .ok (.iload_n 2, 1) := by decide +kernel
theorem dX7_tarry_18 : decode cX7_tarry 18 = .ok (.iconst 1, 1) := by decide +kernel
theorem dX7_tarry_19 : decode cX7_tarry 19 = .ok (.if_icmp .ge 10, 3) := by decide +kernel
theorem dX7_tarry_22 : decode cX7_tarry 22 = .ok (.aload_n 0, 1) := by decide +kernel
theorem dX7_tarry_23 : decode cX7_tarry 23 = .ok (.bipush (-4), 2) := by decide +kernel
theorem dX7_tarry_25 : decode cX7_tarry 25 = .ok (.invokevirtual 60, 3) := by decide +kernel
theorem dX7_tarry_28 : decode cX7_tarry 28 = .ok (.ireturn, 1) := by decide +kernel
theorem dX7_tarry_29 : decode cX7_tarry 29 = .ok (.iload_n 2, 1) := by decide +kernel
theorem dX7_tarry_30 : decode cX7_tarry 30 = .ok (.sipush 600, 3) := by decide +kernel
theorem dX7_tarry_33 : decode cX7_tarry 33 = .ok (.if_icmp .le 10, 3) := by decide +kernel
theorem dX7_tarry_36 : decode cX7_tarry 36 = .ok (.aload_n 0, 1) := by decide +kernel
theorem dX7_tarry_37 : decode cX7_tarry 37 = .ok (.bipush (-6), 2) := by decide +kernel
theorem dX7_tarry_39 : decode cX7_tarry 39 = .ok (.invokevirtual 60, 3) := by decide +kernel
theorem dX7_tarry_42 : decode cX7_tarry 42 = .ok (.ireturn, 1) := by decide +kernel
theorem dX7_tarry_43 : decode cX7_tarry 43 = .ok (.aload_n 0, 1) := by decide +kernel
theorem dX7_tarry_44 : decode cX7_tarry 44 = .ok (.getfield 10, 3) := by decide +kernel
theorem dX7_tarry_47 : decode cX7_tarry 47 = .ok (.getfield 92, 3) := by decide +kernel
theorem dX7_tarry_50 : decode cX7_tarry 50 = .ok (.iload_n 1, 1) := by decide +kernel
theorem dX7_tarry_51 : decode cX7_tarry 51 = .ok (.aaload, 1) := by decide +kernel
theorem dX7_tarry_52 : decode cX7_tarry 52 = .ok (.dup, 1) := by decide +kernel
theorem dX7_tarry_53 : decode cX7_tarry 53 = .ok (.getfield 122, 3) := by decide +kernel
theorem dX7_tarry_56 : decode cX7_tarry 56 = .ok (.iload_n 2, 1) := by decide +kernel
theorem dX7_tarry_57 : decode cX7_tarry 57 = .ok (.iadd, 1) := by decide +kernel
theorem dX7_tarry_58 : decode cX7_tarry 58 = .ok (.putfield 122, 3) := by decide +kernel
theorem dX7_tarry_61 : decode cX7_tarry 61 = .ok (.aload_n 0, 1) := by decide +kernel
theorem dX7_tarry_62 : decode cX7_tarry 62 = .ok (.getfield 10, 3) := by decide +kernel
theorem dX7_tarry_65 : decode cX7_tarry 65 = .ok (.getfield 92, 3) := by decide +kernel
theorem dX7_tarry_68 : decode cX7_tarry 68 = .ok (.iload_n 1, 1) := by decide +kernel
theorem dX7_tarry_69 : decode cX7_tarry 69 = .ok (.aaload, 1) := by decide +kernel
theorem dX7_tarry_70 : decode cX7_tarry 70 = .ok (.getfield 122, 3) := by decide +kernel
theorem dX7_tarry_73 : decode cX7_tarry 73 = .ok (.ireturn, 1) := by decide +kernel
theorem dX7_give_0 : decode cX7_give 0 = .ok (.aload_n 0, 1) := by decide +kernel
theorem dX7_give_1 : decode cX7_give 1 = .ok (.getfield 10, 3) := by decide +kernel
theorem dX7_give_4 : decode cX7_give 4 = .ok (.iload_n 1, 1) := by decide +kernel
theorem dX7_give_5 : decode cX7_give 5 = .ok (.invokevirtual 86, 3) := by decide +kernel
theorem dX7_give_8 : decode cX7_give 8 = .ok (.ifCond .eq 14, 3) := by decide +kernel
theorem dX7_give_11 : decode cX7_give 11 = .ok (.aload_n 0, 1) := by decide +kernel
theorem dX7_give_12 : decode cX7_give 12 = .ok (.getfield 10, 3) := by decide +kernel
theorem dX7_give_15 : decode cX7_give 15 = .ok (.iload_n 2, 1) := by decide +kernel
theorem dX7_give_16 : decode cX7_give 16 = .ok (.invokevirtual 101, 3) := by decide +kernel
theorem dX7_give_19 : decode cX7_give 19 = .ok (.ifCond .ne 9, 3) := by decide +kernel
theorem dX7_give_22 : decode cX7_give 22 = .ok (.aload_n 0, 1) := by decide +kernel
theorem dX7_give_23 : decode cX7_give 23 = .ok (.iconst (-1), 1) := by decide +kernel
theorem dX7_give_24 : decode cX7_give 24 = .ok (.invokevirtual 60, 3) := by decide +kernel
theorem dX7_give_27 : decode cX7_give 27 = .ok (.ireturn, 1) := by decide +kernel
theorem dX7_give_28 : decode cX7_give 28 = .ok (.aload_n 0, 1) := by decide +kernel
theorem dX7_give_29 : decode cX7_give 29 = .ok (.getfield 10, 3) := by decide +kernel
theorem dX7_give_32 : decode cX7_give 32 = .ok (.getfield 104, 3) := by decide +kernel
theorem dX7_give_35 : decode cX7_give 35 = .ok (.iload_n 2, 1) := by decide +kernel
theorem dX7_give_36 : decode cX7_give 36 = .ok (.aaload, 1) := by decide +kernel
theorem dX7_give_37 : decode cX7_give 37 = .ok (.iload_n 1, 1) := by decide +kernel
theorem dX7_give_38 : decode cX7_give 38 = .ok (.invokevirtual 134, 3) := by decide +kernel
theorem dX7_give_41 : decode cX7_give 41 = .ok (.ifCond .ne 10, 3) := by decide +kernel
theorem dX7_give_44 : decode cX7_give 44 = .ok (.aload_n 0, 1) := by decide +kernel
theorem dX7_give_45 : decode cX7_give 45 = .ok (.bipush (-3), 2) := by decide +kernel
theorem dX7_give_47 : decode cX7_give 47 = .ok (.invokevirtual 60, 3) := by decide +kernel
theorem dX7_give_50 : decode cX7_give 50 = .ok (.ireturn, 1) := by decide +kernel
theorem dX7_give_51 : decode cX7_give 51 = .ok (.aload_n 0, 1) := by decide +kernel
theorem dX7_give_52 : decode cX7_give 52 = .ok (.getfield 10, 3) := by decide +kernel
theorem dX7_give_55 : decode cX7_give 55 = .ok (.getfield 104, 3) := by decide +kernel
theorem dX7_give_58 : decode cX7_give 58 = .ok (.iload_n 2, 1) := by decide +kernel
theorem dX7_give_59 : decode cX7_give 59 = .ok (.aaload, 1) := by decide +kernel
theorem dX7_give_60 : decode cX7_give 60 = .ok (.aload_n 0, 1) := by decide +kernel
theorem dX7_give_61 : decode cX7_give 61 = .ok (.getfield 10, 3) := by decide +kernel
theorem dX7_give_64 : decode cX7_give 64 = .ok (.getfield 92, 3) := by decide +kernel
theorem dX7_give_67 : decode cX7_give 67 = .ok (.iload_n 1, 1) := by decide +kernel
theorem dX7_give_68 : decode cX7_give 68 = .ok (.aaload, 1) := by decide +kernel
theorem dX7_give_69 : decode cX7_give 69 = .ok (.getfield 122, 3) := by decide +kernel
theorem dX7_give_72 : decode cX7_give 72 = .ok (.putfield 137, 3) := by decide +kernel
theorem dX7_give_75 : decode cX7_give 75 = .ok (.aload_n 0, 1) := by decide +kernel
theorem dX7_give_76 : decode cX7_give 76 = .ok (.getfield 10, 3) := by decide +kernel
theorem dX7_give_79 : decode cX7_give 79 = .ok (.getfield 92, 3) := by decide +kernel
theorem dX7_give_82 : decode cX7_give 82 = .ok (.iload_n 1, 1) := by decide +kernel
theorem dX7_give_83 : decode cX7_give 83 = .ok (.aaload, 1) := by decide +kernel
theorem dX7_give_84 : decode cX7_give 84 = .ok (.getfield 122, 3) := by decide +kernel
theorem dX7_give_87 : decode cX7_give 87 = .ok (.ireturn, 1) := by decide +kernel
theorem dX7_there_0 : decode cX7_there 0 = .ok (.iconst 0, 1) := by decide +kernel
theorem dX7_there_1 : decode cX7_there 1 = .ok (.istore_n 1, 1) := by decide +kernel
theorem dX7_there_2 : decode cX7_there 2 = .ok (.iconst 0, 1) := by decide +kernel
theorem dX7_there_3 : decode cX7_there 3 = .ok (.istore_n 2, 1) := by decide +kernel
theorem dX7_there_4 : decode cX7_there 4 = .ok (.iload_n 2, 1) := by decide +kernel
theorem dX7_there_5 : decode cX7_there 5 = .ok (.aload_n 0, 1) := by decide +kernel
theorem dX7_there_6 : decode cX7_there 6 = .ok (.getfield 10, 3) := by decide +kernel
theorem dX7_there_9 : decode cX7_there 9 = .ok (.getfield 140, 3) := by decide +kernel
theorem dX7_there_12 : decode cX7_there 12 = .ok (.if_icmp .ge 44, 3) := by decide +kernel
theorem dX7_there_15 : decode cX7_there 15 = .ok (.aload_n 0, 1) := by decide +kernel
theorem dX7_there_16 : decode cX7_there 16 = .ok (.getfield 10, 3) := by decide +kernel
theorem dX7_there_19 : decode cX7_there 19 = .ok (.getfield 104, 3) := by decide +kernel
theorem dX7_there_22 : decode cX7_there 22 = .ok (.iload_n 2, 1) := by decide +kernel
theorem dX7_there_23 : decode cX7_there 23 = .ok (.aaload, 1) := by decide +kernel
theorem dX7_there_24 : decode cX7_there 24 = .ok (.astore_n 3, 1) := by decide +kernel
theorem dX7_there_25 : decode cX7_there 25 = .ok (.aload_n 3, 1) := by decide +kernel
theorem dX7_there_26 : decode cX7_there 26 = .ok (.getfield 143, 3) := by decide +kernel
theorem dX7_there_29 : decode cX7_there 29 = .ok (.aload_n 3, 1) := by decide +kernel
theorem dX7_there_30 : decode cX7_there 30 = .ok (.getfield 146, 3) := by decide +kernel
theorem dX7_there_33 : decode cX7_there 33 = .ok (.if_icmp .ne 17, 3) := by decide +kernel
theorem dX7_there_36 : decode cX7_there 36 = .ok (.aload_n 3, 1) := by decide +kernel
theorem dX7_there_37 : decode cX7_there 37 = .ok (.getfield 149, 3) := by decide +kernel
theorem dX7_there_40 : decode cX7_there 40 = .ok (.aload_n 3, 1) := by decide +kernel
theorem dX7_there_41 : decode cX7_there 41 = .ok (.getfield 152, 3) := by decide +kernel
theorem dX7_there_44 : decode cX7_there 44 = .ok (.if_icmp .gt 6, 3) := by decide +kernel
theorem dX7_there_47 : decode cX7_there 47 = .ok (.iinc 1 1, 3) := by decide +kernel
theorem dX7_there_50 : decode cX7_there 50 = .ok (.iinc 2 1, 3) := by decide +kernel
theorem dX7_there_53 : decode cX7_there 53 = .ok (.goto (-49), 3) := by decide +kernel
theorem dX7_there_56 : decode cX7_there 56 = .ok (.iload_n 1, 1) := by decide +kernel
theorem dX7_there_57 : decode cX7_there 57 = .ok (.ireturn, 1) := by decide +kernel
theorem dX7_soonest_0 : decode cX7_soonest 0 = .ok (.aload_n 0, 1) := by decide +kernel
theorem dX7_soonest_1 : decode cX7_soonest 1 = .ok (.getfield 10, 3) := by decide +kernel
theorem dX7_soonest_4 : decode cX7_soonest 4 = .ok (.iload_n 1, 1) := by decide +kernel
theorem dX7_soonest_5 : decode cX7_soonest 5 = .ok (.invokevirtual 101, 3) := by decide +kernel
theorem dX7_soonest_8 : decode cX7_soonest 8 = .ok (.ifCond .ne 9, 3) := by decide +kernel
theorem dX7_soonest_11 : decode cX7_soonest 11 = .ok (.aload_n 0, 1) := by decide +kernel
theorem dX7_soonest_12 : decode cX7_soonest 12 = .ok (.iconst (-1), 1) := by decide +kernel
theorem dX7_soonest_13 : decode cX7_soonest 13 = .ok (.invokevirtual 60, 3) := by decide +kernel
theorem dX7_soonest_16 : decode cX7_soonest 16 = .ok (.ireturn, 1) := by decide +kernel
theorem dX7_soonest_17 : decode cX7_soonest 17 = .ok (.aload_n 0, 1) := by decide +kernel
theorem dX7_soonest_18 : decode cX7_soonest 18 = .ok (.getfield 34, 3) := by decide +kernel
theorem dX7_soonest_21 : decode cX7_soonest 21 = .ok (.invokevirtual 155, 3) := by decide +kernel
theorem dX7_soonest_24 : decode cX7_soonest 24 = .ok (.aload_n 0, 1) := by decide +kernel
theorem dX7_soonest_25 : decode cX7_soonest 25 = .ok (.getfield 34, 3) := by decide +kernel
theorem dX7_soonest_28 : decode cX7_soonest 28 = .ok (.iload_n 1, 1) := by decide +kernel
theorem dX7_soonest_29 : decode cX7_soonest 29 = .ok (.invokevirtual 158, 3) := by decide +kernel
theorem dX7_soonest_32 : decode cX7_soonest 32 = .ok (.ireturn, 1) := by decide +kernel
theorem dX7_over_0 : decode cX7_over 0 = .ok (.aload_n 0, 1) := by decide +kernel
theorem dX7_over_1 : decode cX7_over 1 = .ok (.getfield 10, 3) := by decide +kernel
theorem dX7_over_4 : decode cX7_over 4 = .ok (.iload_n 1, 1) := by decide +kernel
theorem dX7_over_5 : decode cX7_over 5 = .ok (.invokevirtual 101, 3) := by decide +kernel
theorem dX7_over_8 : decode cX7_over 8 = .ok (.ifCond .ne 9, 3) := by decide +kernel
theorem dX7_over_11 : decode cX7_over 11 = .ok (.aload_n 0, 1) := by decide +kernel
theorem dX7_over_12 : decode cX7_over 12 = .ok (.iconst (-1), 1) := by decide +kernel
theorem dX7_over_13 : decode cX7_over 13 = .ok (.invokevirtual 60, 3) := by decide +kernel
theorem dX7_over_16 : decode cX7_over 16 = .ok (.ireturn, 1) := by decide +kernel
theorem dX7_over_17 : decode cX7_over 17 = .ok (.iload_n 2, 1) := by decide +kernel
theorem dX7_over_18 : decode cX7_over 18 = .ok (.iconst (-1), 1) := by decide +kernel
theorem dX7_over_19 : decode cX7_over 19 = .ok (.if_icmp .ge 10, 3) := by decide +kernel
theorem dX7_over_22 : decode cX7_over 22 = .ok (.aload_n 0, 1) := by decide +kernel
theorem dX7_over_23 : decode cX7_over 23 = .ok (.bipush (-4), 2) := by decide +kernel
theorem dX7_over_25 : decode cX7_over 25 = .ok (.invokevirtual 60, 3) := by decide +kernel
theorem dX7_over_28 : decode cX7_over 28 = .ok (.ireturn, 1) := by decide +kernel
theorem dX7_over_29 : decode cX7_over 29 = .ok (.aload_n 0, 1) := by decide +kernel
theorem dX7_over_30 : decode cX7_over 30 = .ok (.getfield 34, 3) := by decide +kernel
theorem dX7_over_33 : decode cX7_over 33 = .ok (.invokevirtual 155, 3) := by decide +kernel
theorem dX7_over_36 : decode cX7_over 36 = .ok (.aload_n 0, 1) := by decide +kernel
theorem dX7_over_37 : decode cX7_over 37 = .ok (.getfield 34, 3) := by decide +kernel
theorem dX7_over_40 : decode cX7_over 40 = .ok (.iload_n 1, 1) := by decide +kernel
theorem dX7_over_41 : decode cX7_over 41 = .ok (.invokevirtual 158, 3) := by decide +kernel
theorem dX7_over_44 : decode cX7_over 44 = .ok (.bipush (-9), 2) := by decide +kernel
theorem dX7_over_46 : decode cX7_over 46 = .ok (.if_icmp .ne 6, 3) := by decide +kernel
theorem dX7_over_49 : decode cX7_over 49 = .ok (.bipush (-9), 2) := by decide +kernel
theorem dX7_over_51 : decode cX7_over 51 = .ok (.ireturn, 1) := by decide +kernel
theorem dX7_over_52 : decode cX7_over 52 = .ok (.aload_n 0, 1) := by decide +kernel
theorem dX7_over_53 : decode cX7_over 53 = .ok (.getfield 34, 3) := by decide +kernel
theorem dX7_over_56 : decode cX7_over 56 = .ok (.iload_n 1, 1) := by decide +kernel
theorem dX7_over_57 : decode cX7_over 57 = .ok (.invokevirtual 161, 3) := by decide +kernel
theorem dX7_over_60 : decode cX7_over 60 = .ok (.iload_n 2, 1) := by decide +kernel
theorem dX7_over_61 : decode cX7_over 61 = .ok (.ifCond .ge 13, 3) := by decide +kernel
theorem dX7_over_64 : decode cX7_over 64 = .ok (.aload_n 0, 1) := by decide +kernel
theorem dX7_over_65 : decode cX7_over 65 = .ok (.getfield 34, 3) := by decide +kernel
theorem dX7_over_68 : decode cX7_over 68 = .ok (.getfield 165, 3) := by decide +kernel
theorem dX7_over_71 : decode cX7_over 71 = .ok (.goto 11, 3) := by decide +kernel
theorem dX7_over_74 : decode cX7_over 74 = .ok (.aload_n 0, 1) := by decide +kernel
theorem dX7_over_75 : decode cX7_over 75 = .ok (.getfield 34, 3) := by decide +kernel
theorem dX7_over_78 : decode cX7_over 78 = .ok (.iload_n 2, 1) := by decide +kernel
theorem dX7_over_79 : decode cX7_over 79 = .ok (.invokevirtual 168, 3) := by decide +kernel
theorem dX7_over_82 : decode cX7_over 82 = .ok (.ireturn, 1) := by decide +kernel
theorem dX7_bars_0 : decode cX7_bars 0 = .ok (.aload_n 0, 1) := by decide +kernel
theorem dX7_bars_1 : decode cX7_bars 1 = .ok (.getfield 10, 3) := by decide +kernel
theorem dX7_bars_4 : decode cX7_bars 4 = .ok (.iload_n 1, 1) := by decide +kernel
theorem dX7_bars_5 : decode cX7_bars 5 = .ok (.invokevirtual 101, 3) := by decide +kernel
theorem dX7_bars_8 : decode cX7_bars 8 = .ok (.ifCond .ne 9, 3) := by decide +kernel
theorem dX7_bars_11 : decode cX7_bars 11 = .ok (.aload_n 0, 1) := by decide +kernel
theorem dX7_bars_12 : decode cX7_bars 12 = .ok (.iconst (-1), 1) := by decide +kernel
theorem dX7_bars_13 : decode cX7_bars 13 = .ok (.invokevirtual 60, 3) := by decide +kernel
theorem dX7_bars_16 : decode cX7_bars 16 = .ok (.ireturn, 1) := by decide +kernel
theorem dX7_bars_17 : decode cX7_bars 17 = .ok (.aload_n 0, 1) := by decide +kernel
theorem dX7_bars_18 : decode cX7_bars 18 = .ok (.getfield 34, 3) := by decide +kernel
theorem dX7_bars_21 : decode cX7_bars 21 = .ok (.invokevirtual 155, 3) := by decide +kernel
theorem dX7_bars_24 : decode cX7_bars 24 = .ok (.aload_n 0, 1) := by decide +kernel
theorem dX7_bars_25 : decode cX7_bars 25 = .ok (.getfield 34, 3) := by decide +kernel
theorem dX7_bars_28 : decode cX7_bars 28 = .ok (.iload_n 1, 1) := by decide +kernel
theorem dX7_bars_29 : decode cX7_bars 29 = .ok (.invokevirtual 171, 3) := by decide +kernel
theorem dX7_bars_32 : decode cX7_bars 32 = .ok (.ireturn, 1) := by decide +kernel
theorem dX7_never_0 : decode cX7_never 0 = .ok (.aload_n 0, 1) := by decide +kernel
theorem dX7_never_1 : decode cX7_never 1 = .ok (.getfield 34, 3) := by decide +kernel
theorem dX7_never_4 : decode cX7_never 4 = .ok (.invokevirtual 155, 3) := by decide +kernel
theorem dX7_never_7 : decode cX7_never 7 = .ok (.iconst 0, 1) := by decide +kernel
theorem dX7_never_8 : decode cX7_never 8 = .ok (.istore_n 1, 1) := by decide +kernel
theorem dX7_never_9 : decode cX7_never 9 = .ok (.iconst 0, 1) := by decide +kernel
theorem dX7_never_10 : decode cX7_never 10 = .ok (.istore_n 2, 1) := by decide +kernel
theorem dX7_never_11 : decode cX7_never 11 = .ok (.iload_n 2, 1) := by decide +kernel
theorem dX7_never_12 : decode cX7_never 12 = .ok (.aload_n 0, 1) := by decide +kernel
theorem dX7_never_13 : decode cX7_never 13 = .ok (.getfield 10, 3) := by decide +kernel
theorem dX7_never_16 : decode cX7_never 16 = .ok (.getfield 140, 3) := by decide +kernel
theorem dX7_never_19 : decode cX7_never 19 = .ok (.if_icmp .ge 28, 3) := by decide +kernel
theorem dX7_never_22 : decode cX7_never 22 = .ok (.aload_n 0, 1) := by decide +kernel
theorem dX7_never_23 : decode cX7_never 23 = .ok (.getfield 34, 3) := by decide +kernel
theorem dX7_never_26 : decode cX7_never 26 = .ok (.iload_n 2, 1) := by decide +kernel
theorem dX7_never_27 : decode cX7_never 27 = .ok (.invokevirtual 158, 3) := by decide +kernel
theorem dX7_never_30 : decode cX7_never 30 = .ok (.bipush (-9), 2) := by decide +kernel
theorem dX7_never_32 : decode cX7_never 32 = .ok (.if_icmp .ne 9, 3) := by decide +kernel
theorem dX7_never_35 : decode cX7_never 35 = .ok (.iload_n 1, 1) := by decide +kernel
theorem dX7_never_36 : decode cX7_never 36 = .ok (.iconst 1, 1) := by decide +kernel
theorem dX7_never_37 : decode cX7_never 37 = .ok (.iload_n 2, 1) := by decide +kernel
theorem dX7_never_38 : decode cX7_never 38 = .ok (.ishl, 1) := by decide +kernel
theorem dX7_never_39 : decode cX7_never 39 = .ok (.ior, 1) := by decide +kernel
theorem dX7_never_40 : decode cX7_never 40 = .ok (.istore_n 1, 1) := by decide +kernel
theorem dX7_never_41 : decode cX7_never 41 = .ok (.iinc 2 1, 3) := by decide +kernel
theorem dX7_never_44 : decode cX7_never 44 = .ok (.goto (-33), 3) := by decide +kernel
theorem dX7_never_47 : decode cX7_never 47 = .ok (.iload_n 1, 1) := by decide +kernel
theorem dX7_never_48 : decode cX7_never 48 = .ok (.ireturn, 1) := by decide +kernel
theorem dX7_why_0 : decode cX7_why 0 = .ok (.aload_n 0, 1) := by decide +kernel
theorem dX7_why_1 : decode cX7_why 1 = .ok (.getfield 10, 3) := by decide +kernel
theorem dX7_why_4 : decode cX7_why 4 = .ok (.iload_n 1, 1) := by decide +kernel
theorem dX7_why_5 : decode cX7_why 5 = .ok (.invokevirtual 101, 3) := by decide +kernel
theorem dX7_why_8 : decode cX7_why 8 = .ok (.ifCond .ne 9, 3) := by decide +kernel
theorem dX7_why_11 : decode cX7_why 11 = .ok (.aload_n 0, 1) := by decide +kernel
theorem dX7_why_12 : decode cX7_why 12 = .ok (.iconst (-1), 1) := by decide +kernel
theorem dX7_why_13 : decode cX7_why 13 = .ok (.invokevirtual 60, 3) := by decide +kernel
theorem dX7_why_16 : decode cX7_why 16 = .ok (.ireturn, 1) := by decide +kernel
theorem dX7_why_17 : decode cX7_why 17 = .ok (.aload_n 0, 1) := by decide +kernel
theorem dX7_why_18 : decode cX7_why 18 = .ok (.getfield 34, 3) := by decide +kernel
theorem dX7_why_21 : decode cX7_why 21 = .ok (.invokevirtual 155, 3) := by decide +kernel
theorem dX7_why_24 : decode cX7_why 24 = .ok (.aload_n 0, 1) := by decide +kernel
theorem dX7_why_25 : decode cX7_why 25 = .ok (.getfield 34, 3) := by decide +kernel
theorem dX7_why_28 : decode cX7_why 28 = .ok (.iload_n 1, 1) := by decide +kernel
theorem dX7_why_29 : decode cX7_why 29 = .ok (.invokevirtual 158, 3) := by decide +kernel
theorem dX7_why_32 : decode cX7_why 32 = .ok (.bipush (-9), 2) := by decide +kernel
theorem dX7_why_34 : decode cX7_why 34 = .ok (.if_icmp .eq 5, 3) := by decide +kernel
theorem dX7_why_37 : decode cX7_why 37 = .ok (.iconst 0, 1) := by decide +kernel
theorem dX7_why_38 : decode cX7_why 38 = .ok (.ireturn, 1) := by decide +kernel
theorem dX7_why_39 : decode cX7_why 39 = .ok (.aload_n 0, 1) := by decide +kernel
theorem dX7_why_40 : decode cX7_why 40 = .ok (.getfield 34, 3) := by decide +kernel
theorem dX7_why_43 : decode cX7_why 43 = .ok (.iload_n 1, 1) := by decide +kernel
theorem dX7_why_44 : decode cX7_why 44 = .ok (.aload_n 0, 1) := by decide +kernel
theorem dX7_why_45 : decode cX7_why 45 = .ok (.getfield 10, 3) := by decide +kernel
theorem dX7_why_48 : decode cX7_why 48 = .ok (.getfield 104, 3) := by decide +kernel
theorem dX7_why_51 : decode cX7_why 51 = .ok (.iload_n 1, 1) := by decide +kernel
theorem dX7_why_52 : decode cX7_why 52 = .ok (.aaload, 1) := by decide +kernel
theorem dX7_why_53 : decode cX7_why 53 = .ok (.getfield 174, 3) := by decide +kernel
theorem dX7_why_56 : decode cX7_why 56 = .ok (.invokevirtual 177, 3) := by decide +kernel
theorem dX7_why_59 : decode cX7_why 59 = .ok (.ifCond .ne 5, 3) := by decide +kernel
theorem dX7_why_62 : decode cX7_why 62 = .ok (.iconst 1, 1) := by decide +kernel
theorem dX7_why_63 : decode cX7_why 63 = .ok (.ireturn, 1) := by decide +kernel
theorem dX7_why_64 : decode cX7_why 64 = .ok (.aload_n 0, 1) := by decide +kernel
theorem dX7_why_65 : decode cX7_why 65 = .ok (.getfield 34, 3) := by decide +kernel
theorem dX7_why_68 : decode cX7_why 68 = .ok (.iload_n 1, 1) := by decide +kernel
theorem dX7_why_69 : decode cX7_why 69 = .ok (.aload_n 0, 1) := by decide +kernel
theorem dX7_why_70 : decode cX7_why 70 = .ok (.getfield 10, 3) := by decide +kernel
theorem dX7_why_73 : decode cX7_why 73 = .ok (.getfield 104, 3) := by decide +kernel
theorem dX7_why_76 : decode cX7_why 76 = .ok (.iload_n 1, 1) := by decide +kernel
theorem dX7_why_77 : decode cX7_why 77 = .ok (.aaload, 1) := by decide +kernel
theorem dX7_why_78 : decode cX7_why 78 = .ok (.getfield 146, 3) := by decide +kernel
theorem dX7_why_81 : decode cX7_why 81 = .ok (.invokevirtual 177, 3) := by decide +kernel
theorem dX7_why_84 : decode cX7_why 84 = .ok (.ifCond .eq 7, 3) := by decide +kernel
theorem dX7_why_87 : decode cX7_why 87 = .ok (.iconst 4, 1) := by decide +kernel
theorem dX7_why_88 : decode cX7_why 88 = .ok (.goto 4, 3) := by decide +kernel
theorem dX7_why_91 : decode cX7_why 91 = .ok (.iconst 2, 1) := by decide +kernel
theorem dX7_why_92 : decode cX7_why 92 = .ok (.ireturn, 1) := by decide +kernel
theorem dX7_round_0 : decode cX7_round 0 = .ok (.aload_n 0, 1) := by decide +kernel
theorem dX7_round_1 : decode cX7_round 1 = .ok (.getfield 10, 3) := by decide +kernel
theorem dX7_round_4 : decode cX7_round 4 = .ok (.iload_n 1, 1) := by decide +kernel
theorem dX7_round_5 : decode cX7_round 5 = .ok (.invokevirtual 86, 3) := by decide +kernel
theorem dX7_round_8 : decode cX7_round 8 = .ok (.ifCond .eq 14, 3) := by decide +kernel
theorem dX7_round_11 : decode cX7_round 11 = .ok (.aload_n 0, 1) := by decide +kernel
theorem dX7_round_12 : decode cX7_round 12 = .ok (.getfield 10, 3) := by decide +kernel
theorem dX7_round_15 : decode cX7_round 15 = .ok (.iload_n 2, 1) := by decide +kernel
theorem dX7_round_16 : decode cX7_round 16 = .ok (.invokevirtual 101, 3) := by decide +kernel
theorem dX7_round_19 : decode cX7_round 19 = .ok (.ifCond .ne 9, 3) := by decide +kernel
theorem dX7_round_22 : decode cX7_round 22 = .ok (.aload_n 0, 1) := by decide +kernel
theorem dX7_round_23 : decode cX7_round 23 = .ok (.iconst (-1), 1) := by decide +kernel
theorem dX7_round_24 : decode cX7_round 24 = .ok (.invokevirtual 60, 3) := by decide +kernel
theorem dX7_round_27 : decode cX7_round 27 = .ok (.ireturn, 1) := by decide +kernel
theorem dX7_round_28 : decode cX7_round 28 = .ok (.iload_n 3, 1) := by decide +kernel
theorem dX7_round_29 : decode cX7_round 29 = .ok (.ifCond .lt 8, 3) := by decide +kernel
theorem dX7_round_32 : decode cX7_round 32 = .ok (.iload_n 3, 1) := by decide +kernel
theorem dX7_round_33 : decode cX7_round 33 = .ok (.iconst 1, 1) := by decide +kernel
theorem dX7_round_34 : decode cX7_round 34 = .ok (.if_icmp .le 10, 3) := by decide +kernel
theorem dX7_round_37 : decode cX7_round 37 = .ok (.aload_n 0, 1) := by decide +kernel
theorem dX7_round_38 : decode cX7_round 38 = .ok (.bipush (-2), 2) := by decide +kernel
theorem dX7_round_40 : decode cX7_round 40 = .ok (.invokevirtual 60, 3) := by decide +kernel
theorem dX7_round_43 : decode cX7_round 43 = .ok (.ireturn, 1) := by decide +kernel
theorem dX7_round_44 : decode cX7_round 44 = .ok (.aload_n 0, 1) := by decide +kernel
theorem dX7_round_45 : decode cX7_round 45 = .ok (.getfield 10, 3) := by decide +kernel
theorem dX7_round_48 : decode cX7_round 48 = .ok (.iload_n 1, 1) := by decide +kernel
theorem dX7_round_49 : decode cX7_round 49 = .ok (.iload_n 2, 1) := by decide +kernel
theorem dX7_round_50 : decode cX7_round 50 = .ok (.invokevirtual 180, 3) := by decide +kernel
theorem dX7_round_53 : decode cX7_round 53 = .ok (.istore 4, 2) := by decide +kernel
theorem dX7_round_55 : decode cX7_round 55 = .ok (.iload 4, 2) := by decide +kernel
theorem dX7_round_57 : decode cX7_round 57 = .ok (.bipush (-9), 2) := by decide +kernel
theorem dX7_round_59 : decode cX7_round 59 = .ok (.if_icmp .eq 7, 3) := by decide +kernel
theorem dX7_round_62 : decode cX7_round 62 = .ok (.iload_n 3, 1) := by decide +kernel
theorem dX7_round_63 : decode cX7_round 63 = .ok (.ifCond .ne 8, 3) := by decide +kernel
theorem dX7_round_66 : decode cX7_round 66 = .ok (.iload 4, 2) := by decide +kernel
theorem dX7_round_68 : decode cX7_round 68 = .ok (.goto 12, 3) := by decide +kernel
theorem dX7_round_71 : decode cX7_round 71 = .ok (.aload_n 0, 1) := by decide +kernel
theorem dX7_round_72 : decode cX7_round 72 = .ok (.getfield 10, 3) := by decide +kernel
theorem dX7_round_75 : decode cX7_round 75 = .ok (.iload_n 1, 1) := by decide +kernel
theorem dX7_round_76 : decode cX7_round 76 = .ok (.iload_n 2, 1) := by decide +kernel
theorem dX7_round_77 : decode cX7_round 77 = .ok (.invokevirtual 183, 3) := by decide +kernel
theorem dX7_round_80 : decode cX7_round 80 = .ok (.ireturn, 1) := by decide +kernel
theorem dX7_each_0 : decode cX7_each 0 = .ok (.iload_n 1, 1) := by decide +kernel
theorem dX7_each_1 : decode cX7_each 1 = .ok (.iconst (-1), 1) := by decide +kernel
theorem dX7_each_2 : decode cX7_each 2 = .ok (.if_icmp .eq 20, 3) := by decide +kernel
theorem dX7_each_5 : decode cX7_each 5 = .ok (.aload_n 0, 1) := by decide +kernel
theorem dX7_each_6 : decode cX7_each 6 = .ok (.getfield 10, 3) := by decide +kernel
theorem dX7_each_9 : decode cX7_each 9 = .ok (.iload_n 1, 1) := by decide +kernel
theorem dX7_each_10 : decode cX7_each 10 = .ok (.invokevirtual 86, 3) := by decide +kernel
theorem dX7_each_13 : decode cX7_each 13 = .ok (.ifCond .ne 9, 3) := by decide +kernel
theorem dX7_each_16 : decode cX7_each 16 = .ok (.aload_n 0, 1) := by decide +kernel
theorem dX7_each_17 : decode cX7_each 17 = .ok (.iconst (-1), 1) := by decide +kernel
theorem dX7_each_18 : decode cX7_each 18 = .ok (.invokevirtual 60, 3) := by decide +kernel
theorem dX7_each_21 : decode cX7_each 21 = .ok (.ireturn, 1) := by decide +kernel
theorem dX7_each_22 : decode cX7_each 22 = .ok (.aload_n 0, 1) := by decide +kernel
theorem dX7_each_23 : decode cX7_each 23 = .ok (.getfield 41, 3) := by decide +kernel
theorem dX7_each_26 : decode cX7_each 26 = .ok (.aload_n 0, 1) := by decide +kernel
theorem dX7_each_27 : decode cX7_each 27 = .ok (.getfield 10, 3) := by decide +kernel
theorem dX7_each_30 : decode cX7_each 30 = .ok (.bipush (-9), 2) := by decide +kernel
theorem dX7_each_32 : decode cX7_each 32 = .ok (.invokevirtual 186, 3) := by decide +kernel
theorem dX7_each_35 : decode cX7_each 35 = .ok (.istore_n 2, 1) := by decide +kernel
theorem dX7_each_36 : decode cX7_each 36 = .ok (.iload_n 1, 1) := by decide +kernel
theorem dX7_each_37 : decode cX7_each 37 = .ok (.ifCond .ge 7, 3) := by decide +kernel
theorem dX7_each_40 : decode cX7_each 40 = .ok (.iload_n 2, 1) := by decide +kernel
theorem dX7_each_41 : decode cX7_each 41 = .ok (.goto 15, 3) := by decide +kernel
theorem dX7_each_44 : decode cX7_each 44 = .ok (.aload_n 0, 1) := by decide +kernel
theorem dX7_each_45 : decode cX7_each 45 = .ok (.getfield 41, 3) := by decide +kernel
theorem dX7_each_48 : decode cX7_each 48 = .ok (.aload_n 0, 1) := by decide +kernel
theorem dX7_each_49 : decode cX7_each 49 = .ok (.getfield 10, 3) := by decide +kernel
theorem dX7_each_52 : decode cX7_each 52 = .ok (.iload_n 1, 1) := by decide +kernel
theorem dX7_each_53 : decode cX7_each 53 = .ok (.invokevirtual 190, 3) := by decide +kernel
theorem dX7_each_56 : decode cX7_each 56 = .ok (.ireturn, 1) := by decide +kernel
theorem dX7_pay_0 : decode cX7_pay 0 = .ok (.aload_n 0, 1) := by decide +kernel
theorem dX7_pay_1 : decode cX7_pay 1 = .ok (.getfield 10, 3) := by decide +kernel
theorem dX7_pay_4 : decode cX7_pay 4 = .ok (.iload_n 1, 1) := by decide +kernel
theorem dX7_pay_5 : decode cX7_pay 5 = .ok (.invokevirtual 86, 3) := by decide +kernel
theorem dX7_pay_8 : decode cX7_pay 8 = .ok (.ifCond .ne 9, 3) := by decide +kernel
theorem dX7_pay_11 : decode cX7_pay 11 = .ok (.aload_n 0, 1) := by decide +kernel
theorem dX7_pay_12 : decode cX7_pay 12 = .ok (.iconst (-1), 1) := by decide +kernel
theorem dX7_pay_13 : decode cX7_pay 13 = .ok (.invokevirtual 60, 3) := by decide +kernel
theorem dX7_pay_16 : decode cX7_pay 16 = .ok (.ireturn, 1) := by decide +kernel
theorem dX7_pay_17 : decode cX7_pay 17 = .ok (.aload_n 0, 1) := by decide +kernel
theorem dX7_pay_18 : decode cX7_pay 18 = .ok (.getfield 41, 3) := by decide +kernel
theorem dX7_pay_21 : decode cX7_pay 21 = .ok (.aload_n 0, 1) := by decide +kernel
theorem dX7_pay_22 : decode cX7_pay 22 = .ok (.getfield 10, 3) := by decide +kernel
theorem dX7_pay_25 : decode cX7_pay 25 = .ok (.bipush (-9), 2) := by decide +kernel
theorem dX7_pay_27 : decode cX7_pay 27 = .ok (.invokevirtual 186, 3) := by decide +kernel
theorem dX7_pay_30 : decode cX7_pay 30 = .ok (.aload_n 0, 1) := by decide +kernel
theorem dX7_pay_31 : decode cX7_pay 31 = .ok (.getfield 41, 3) := by decide +kernel
theorem dX7_pay_34 : decode cX7_pay 34 = .ok (.aload_n 0, 1) := by decide +kernel
theorem dX7_pay_35 : decode cX7_pay 35 = .ok (.getfield 10, 3) := by decide +kernel
theorem dX7_pay_38 : decode cX7_pay 38 = .ok (.iload_n 1, 1) := by decide +kernel
theorem dX7_pay_39 : decode cX7_pay 39 = .ok (.invokevirtual 186, 3) := by decide +kernel
theorem dX7_pay_42 : decode cX7_pay 42 = .ok (.isub, 1) := by decide +kernel
theorem dX7_pay_43 : decode cX7_pay 43 = .ok (.ireturn, 1) := by decide +kernel
theorem dX7_fewest_0 : decode cX7_fewest 0 = .ok (.aload_n 0, 1) := by decide +kernel
theorem dX7_fewest_1 : decode cX7_fewest 1 = .ok (.getfield 34, 3) := by decide +kernel
theorem dX7_fewest_4 : decode cX7_fewest 4 = .ok (.invokevirtual 155, 3) := by decide +kernel
theorem dX7_fewest_7 : decode cX7_fewest 7 = .ok (.iconst 0, 1) := by decide +kernel
theorem dX7_fewest_8 : decode cX7_fewest 8 = .ok (.istore_n 1, 1) := by decide +kernel
theorem dX7_fewest_9 : decode cX7_fewest 9 = .ok (.iconst 0, 1) := by decide +kernel
theorem dX7_fewest_10 : decode cX7_fewest 10 = .ok (.istore_n 2, 1) := by decide +kernel
theorem dX7_fewest_11 : decode cX7_fewest 11 = .ok (.iload_n 2, 1) := by decide +kernel
theorem dX7_fewest_12 : decode cX7_fewest 12 = .ok (.aload_n 0, 1) := by decide +kernel
theorem dX7_fewest_13 : decode cX7_fewest 13 = .ok (.getfield 10, 3) := by decide +kernel
theorem dX7_fewest_16 : decode cX7_fewest 16 = .ok (.getfield 140, 3) := by decide +kernel
theorem dX7_fewest_19 : decode cX7_fewest 19 = .ok (.if_icmp .ge 40, 3) := by decide +kernel
theorem dX7_fewest_22 : decode cX7_fewest 22 = .ok (.aload_n 0, 1) := by decide +kernel
theorem dX7_fewest_23 : decode cX7_fewest 23 = .ok (.getfield 34, 3) := by decide +kernel
theorem dX7_fewest_26 : decode cX7_fewest 26 = .ok (.iload_n 2, 1) := by decide +kernel
theorem dX7_fewest_27 : decode cX7_fewest 27 = .ok (.invokevirtual 193, 3) := by decide +kernel
theorem dX7_fewest_30 : decode cX7_fewest 30 = .ok (.ifCond .eq 6, 3) := by decide +kernel
theorem dX7_fewest_33 : decode cX7_fewest 33 = .ok (.goto 20, 3) := by decide +kernel
theorem dX7_fewest_36 : decode cX7_fewest 36 = .ok (.aload_n 0, 1) := by decide +kernel
theorem dX7_fewest_37 : decode cX7_fewest 37 = .ok (.getfield 10, 3) := by decide +kernel
theorem dX7_fewest_40 : decode cX7_fewest 40 = .ok (.iload_n 2, 1) := by decide +kernel
theorem dX7_fewest_41 : decode cX7_fewest 41 = .ok (.invokevirtual 196, 3) := by decide +kernel
theorem dX7_fewest_44 : decode cX7_fewest 44 = .ok (.ifCond .ne 6, 3) := by decide +kernel
theorem dX7_fewest_47 : decode cX7_fewest 47 = .ok (.bipush (-9), 2) := by decide +kernel
theorem dX7_fewest_49 : decode cX7_fewest 49 = .ok (.ireturn, 1) := by decide +kernel
theorem dX7_fewest_50 : decode cX7_fewest 50 = .ok (.iinc 1 1, 3) := by decide +kernel
theorem dX7_fewest_53 : decode cX7_fewest 53 = .ok (.iinc 2 1, 3) := by decide +kernel
theorem dX7_fewest_56 : decode cX7_fewest 56 = .ok (.goto (-45), 3) := by decide +kernel
theorem dX7_fewest_59 : decode cX7_fewest 59 = .ok (.iload_n 1, 1) := by decide +kernel
theorem dX7_fewest_60 : decode cX7_fewest 60 = .ok (.ireturn, 1) := by decide +kernel
theorem dX7_beside_0 : decode cX7_beside 0 = .ok (.aload_n 0, 1) := by decide +kernel
theorem dX7_beside_1 : decode cX7_beside 1 = .ok (.getfield 34, 3) := by decide +kernel
theorem dX7_beside_4 : decode cX7_beside 4 = .ok (.invokevirtual 155, 3) := by decide +kernel
theorem dX7_beside_7 : decode cX7_beside 7 = .ok (.aload_n 0, 1) := by decide +kernel
theorem dX7_beside_8 : decode cX7_beside 8 = .ok (.getfield 34, 3) := by decide +kernel
theorem dX7_beside_11 : decode cX7_beside 11 = .ok (.invokevirtual 199, 3) := by decide +kernel
theorem dX7_beside_14 : decode cX7_beside 14 = .ok (.istore_n 1, 1) := by decide +kernel
theorem dX7_beside_15 : decode cX7_beside 15 = .ok (.aload_n 0, 1) := by decide +kernel
theorem dX7_beside_16 : decode cX7_beside 16 = .ok (.getfield 34, 3) := by decide +kernel
theorem dX7_beside_19 : decode cX7_beside 19 = .ok (.iconst 3, 1) := by decide +kernel
theorem dX7_beside_20 : decode cX7_beside 20 = .ok (.putfield 202, 3) := by decide +kernel
theorem dX7_beside_23 : decode cX7_beside 23 = .ok (.iload_n 1, 1) := by decide +kernel
theorem dX7_beside_24 : decode cX7_beside 24 = .ok (.aload_n 0, 1) := by decide +kernel
theorem dX7_beside_25 : decode cX7_beside 25 = .ok (.getfield 34, 3) := by decide +kernel
theorem dX7_beside_28 : decode cX7_beside 28 = .ok (.invokevirtual 199, 3) := by decide +kernel
theorem dX7_beside_31 : decode cX7_beside 31 = .ok (.isub, 1) := by decide +kernel
theorem dX7_beside_32 : decode cX7_beside 32 = .ok (.ireturn, 1) := by decide +kernel
theorem dX7_houses_0 : decode cX7_houses 0 = .ok (.aload_n 0, 1) := by decide +kernel
theorem dX7_houses_1 : decode cX7_houses 1 = .ok (.getfield 34, 3) := by decide +kernel
theorem dX7_houses_4 : decode cX7_houses 4 = .ok (.invokevirtual 155, 3) := by decide +kernel
theorem dX7_houses_7 : decode cX7_houses 7 = .ok (.aload_n 0, 1) := by decide +kernel
theorem dX7_houses_8 : decode cX7_houses 8 = .ok (.getfield 34, 3) := by decide +kernel
theorem dX7_houses_11 : decode cX7_houses 11 = .ok (.invokevirtual 205, 3) := by decide +kernel
theorem dX7_houses_14 : decode cX7_houses 14 = .ok (.ireturn, 1) := by decide +kernel
theorem dX7_days_0 : decode cX7_days 0 = .ok (.iload_n 1, 1) := by decide +kernel
theorem dX7_days_1 : decode cX7_days 1 = .ok (.iconst 1, 1) := by decide +kernel
theorem dX7_days_2 : decode cX7_days 2 = .ok (.if_icmp .ge 10, 3) := by decide +kernel
theorem dX7_days_5 : decode cX7_days 5 = .ok (.aload_n 0, 1) := by decide +kernel
theorem dX7_days_6 : decode cX7_days 6 = .ok (.bipush (-4), 2) := by decide +kernel
theorem dX7_days_8 : decode cX7_days 8 = .ok (.invokevirtual 60, 3) := by decide +kernel
theorem dX7_days_11 : decode cX7_days 11 = .ok (.ireturn, 1) := by decide +kernel
theorem dX7_days_12 : decode cX7_days 12 = .ok (.iload_n 1, 1) := by decide +kernel
theorem dX7_days_13 : decode cX7_days 13 = .ok (.bipush 14, 2) := by decide +kernel
theorem dX7_days_15 : decode cX7_days 15 = .ok (.if_icmp .le 10, 3) := by decide +kernel
theorem dX7_days_18 : decode cX7_days 18 = .ok (.aload_n 0, 1) := by decide +kernel
theorem dX7_days_19 : decode cX7_days 19 = .ok (.bipush (-6), 2) := by decide +kernel
theorem dX7_days_21 : decode cX7_days 21 = .ok (.invokevirtual 60, 3) := by decide +kernel
theorem dX7_days_24 : decode cX7_days 24 = .ok (.ireturn, 1) := by decide +kernel
theorem dX7_days_25 : decode cX7_days 25 = .ok (.aload_n 0, 1) := by decide +kernel
theorem dX7_days_26 : decode cX7_days 26 = .ok (.getfield 34, 3) := by decide +kernel
theorem dX7_days_29 : decode cX7_days 29 = .ok (.invokevirtual 155, 3) := by decide +kernel
theorem dX7_days_32 : decode cX7_days 32 = .ok (.aload_n 0, 1) := by decide +kernel
theorem dX7_days_33 : decode cX7_days 33 = .ok (.getfield 34, 3) := by decide +kernel
theorem dX7_days_36 : decode cX7_days 36 = .ok (.iload_n 1, 1) := by decide +kernel
theorem dX7_days_37 : decode cX7_days 37 = .ok (.iload_n 2, 1) := by decide +kernel
theorem dX7_days_38 : decode cX7_days 38 = .ok (.invokevirtual 208, 3) := by decide +kernel
theorem dX7_days_41 : decode cX7_days 41 = .ok (.ireturn, 1) := by decide +kernel
theorem dX7_row_0 : decode cX7_row 0 = .ok (.iload_n 1, 1) := by decide +kernel
theorem dX7_row_1 : decode cX7_row 1 = .ok (.ifCond .ge 10, 3) := by decide +kernel
theorem dX7_row_4 : decode cX7_row 4 = .ok (.aload_n 0, 1) := by decide +kernel
theorem dX7_row_5 : decode cX7_row 5 = .ok (.bipush (-4), 2) := by decide +kernel
theorem dX7_row_7 : decode cX7_row 7 = .ok (.invokevirtual 60, 3) := by decide +kernel
theorem dX7_row_10 : decode cX7_row 10 = .ok (.ireturn, 1) := by decide +kernel
theorem dX7_row_11 : decode cX7_row 11 = .ok (.iload_n 1, 1) := by decide +kernel
theorem dX7_row_12 : decode cX7_row 12 = .ok (.bipush 9, 2) := by decide +kernel
theorem dX7_row_14 : decode cX7_row 14 = .ok (.if_icmp .gt 15, 3) := by decide +kernel
theorem dX7_row_17 : decode cX7_row 17 = .ok (.aload_n 0, 1) := by decide +kernel
theorem dX7_row_18 : decode cX7_row 18 = .ok (.getfield 52, 3) := by decide +kernel
theorem dX7_row_21 : decode cX7_row 21 = .ok (.aload_n 0, 1) := by decide +kernel
theorem dX7_row_22 : decode cX7_row 22 = .ok (.getfield 45, 3) := by decide +kernel
theorem dX7_row_25 : decode cX7_row 25 = .ok (.arraylength, 1) := by decide +kernel
theorem dX7_row_26 : decode cX7_row 26 = .ok (.if_icmp .lt 10, 3) := by decide +kernel
theorem dX7_row_29 : decode cX7_row 29 = .ok (.aload_n 0, 1) := by decide +kernel
theorem dX7_row_30 : decode cX7_row 30 = .ok (.bipush (-6), 2) := by decide +kernel
theorem dX7_row_32 : decode cX7_row 32 = .ok (.invokevirtual 60, 3) := by decide +kernel
theorem dX7_row_35 : decode cX7_row 35 = .ok (.ireturn, 1) := by decide +kernel
theorem dX7_row_36 : decode cX7_row 36 = .ok (.aload_n 0, 1) := by decide +kernel
theorem dX7_row_37 : decode cX7_row 37 = .ok (.getfield 45, 3) := by decide +kernel
theorem dX7_row_40 : decode cX7_row 40 = .ok (.aload_n 0, 1) := by decide +kernel
theorem dX7_row_41 : decode cX7_row 41 = .ok (.getfield 52, 3) := by decide +kernel
theorem dX7_row_44 : decode cX7_row 44 = .ok (.iload_n 1, 1) := by decide +kernel
theorem dX7_row_45 : decode cX7_row 45 = .ok (.iastore, 1) := by decide +kernel
theorem dX7_row_46 : decode cX7_row 46 = .ok (.aload_n 0, 1) := by decide +kernel
theorem dX7_row_47 : decode cX7_row 47 = .ok (.dup, 1) := by decide +kernel
theorem dX7_row_48 : decode cX7_row 48 = .ok (.getfield 52, 3) := by decide +kernel
theorem dX7_row_51 : decode cX7_row 51 = .ok (.iconst 1, 1) := by decide +kernel
theorem dX7_row_52 : decode cX7_row 52 = .ok (.iadd, 1) := by decide +kernel
theorem dX7_row_53 : decode cX7_row 53 = .ok (.putfield 52, 3) := by decide +kernel
theorem dX7_row_56 : decode cX7_row 56 = .ok (.aload_n 0, 1) := by decide +kernel
theorem dX7_row_57 : decode cX7_row 57 = .ok (.getfield 52, 3) := by decide +kernel
theorem dX7_row_60 : decode cX7_row 60 = .ok (.ireturn, 1) := by decide +kernel
theorem dX7_judge_0 : decode cX7_judge 0 = .ok (.aload_n 0, 1) := by decide +kernel
theorem dX7_judge_1 : decode cX7_judge 1 = .ok (.invokevirtual 211, 3) := by decide +kernel
theorem dX7_judge_4 : decode cX7_judge 4 = .ok (.istore_n 1, 1) := by decide +kernel
theorem dX7_judge_5 : decode cX7_judge 5 = .ok (.aload_n 0, 1) := by decide +kernel
theorem dX7_judge_6 : decode cX7_judge 6 = .ok (.iconst 0, 1) := by decide +kernel
theorem dX7_judge_7 : decode cX7_judge 7 = .ok (.putfield 52, 3) := by decide +kernel
theorem dX7_judge_10 : decode cX7_judge 10 = .ok (.iload_n 1, 1) := by decide +kernel
theorem dX7_judge_11 : decode cX7_judge 11 = .ok (.ireturn, 1) := by decide +kernel
theorem dX7_image_0 : decode cX7_image 0 = .ok (.aload_n 0, 1) := by decide +kernel
theorem dX7_image_1 : decode cX7_image 1 = .ok (.getfield 19, 3) := by decide +kernel
theorem dX7_image_4 : decode cX7_image 4 = .ok (.aload_n 0, 1) := by decide +kernel
theorem dX7_image_5 : decode cX7_image 5 = .ok (.getfield 10, 3) := by decide +kernel
theorem dX7_image_8 : decode cX7_image 8 = .ok (.invokevirtual 214, 3) := by decide +kernel
theorem dX7_image_11 : decode cX7_image 11 = .ok (.aload_n 0, 1) := by decide +kernel
theorem dX7_image_12 : decode cX7_image 12 = .ok (.iconst 1, 1) := by decide +kernel
theorem dX7_image_13 : decode cX7_image 13 = .ok (.putfield 56, 3) := by decide +kernel
theorem dX7_image_16 : decode cX7_image 16 = .ok (.aload_n 0, 1) := by decide +kernel
theorem dX7_image_17 : decode cX7_image 17 = .ok (.getfield 10, 3) := by decide +kernel
theorem dX7_image_20 : decode cX7_image 20 = .ok (.getfield 140, 3) := by decide +kernel
theorem dX7_image_23 : decode cX7_image 23 = .ok (.ireturn, 1) := by decide +kernel
theorem dX7_on_0 : decode cX7_on 0 = .ok (.aload_n 0, 1) := by decide +kernel
theorem dX7_on_1 : decode cX7_on 1 = .ok (.getfield 56, 3) := by decide +kernel
theorem dX7_on_4 : decode cX7_on 4 = .ok (.ifCond .ne 10, 3) := by decide +kernel
theorem dX7_on_7 : decode cX7_on 7 = .ok (.aload_n 0, 1) := by decide +kernel
theorem dX7_on_8 : decode cX7_on 8 = .ok (.bipush (-3), 2) := by decide +kernel
theorem dX7_on_10 : decode cX7_on 10 = .ok (.invokevirtual 60, 3) := by decide +kernel
theorem dX7_on_13 : decode cX7_on 13 = .ok (.ireturn, 1) := by decide +kernel
theorem dX7_on_14 : decode cX7_on 14 = .ok (.aload_n 0, 1) := by decide +kernel
theorem dX7_on_15 : decode cX7_on 15 = .ok (.getfield 10, 3) := by decide +kernel
theorem dX7_on_18 : decode cX7_on 18 = .ok (.aload_n 0, 1) := by decide +kernel
theorem dX7_on_19 : decode cX7_on 19 = .ok (.getfield 19, 3) := by decide +kernel
theorem dX7_on_22 : decode cX7_on 22 = .ok (.invokevirtual 214, 3) := by decide +kernel
theorem dX7_on_25 : decode cX7_on 25 = .ok (.aload_n 0, 1) := by decide +kernel
theorem dX7_on_26 : decode cX7_on 26 = .ok (.getfield 10, 3) := by decide +kernel
theorem dX7_on_29 : decode cX7_on 29 = .ok (.getfield 140, 3) := by decide +kernel
theorem dX7_on_32 : decode cX7_on 32 = .ok (.ireturn, 1) := by decide +kernel
theorem dX7_count_0 : decode cX7_count 0 = .ok (.iload_n 1, 1) := by decide +kernel
theorem dX7_count_1 : decode cX7_count 1 = .ok (.bipush 10, 2) := by decide +kernel
theorem dX7_count_3 : decode cX7_count 3 = .ok (.if_icmp .le 25, 3) := by decide +kernel
theorem dX7_count_6 : decode cX7_count 6 = .ok (.iload_n 1, 1) := by decide +kernel
end
section
theorem dX7_count_7 : decode cX7_count 7 = .ok (.bipush 10, 2) := by decide +kernel
theorem dX7_count_9 : decode cX7_count 9 = .ok (.aload_n 0, 1) := by decide +kernel
theorem dX7_count_10 : decode cX7_count 10 = .ok (.getfield 49, 3) := by decide +kernel
theorem dX7_count_13 : decode cX7_count 13 = .ok (.arraylength, 1) := by decide +kernel
theorem dX7_count_14 : decode cX7_count 14 = .ok (.iadd, 1) := by decide +kernel
theorem dX7_count_15 : decode cX7_count 15 = .ok (.if_icmp .ge 13, 3) := by decide +kernel
theorem dX7_count_18 : decode cX7_count 18 = .ok (.aload_n 0, 1) := by decide +kernel
theorem dX7_count_19 : decode cX7_count 19 = .ok (.getfield 49, 3) := by decide +kernel
theorem dX7_count_22 : decode cX7_count 22 = .ok (.iload_n 1, 1) := by decide +kernel
theorem dX7_count_23 : decode cX7_count 23 = .ok (.bipush 10, 2) := by decide +kernel
theorem dX7_count_25 : decode cX7_count 25 = .ok (.isub, 1) := by decide +kernel
theorem dX7_count_26 : decode cX7_count 26 = .ok (.iaload, 1) := by decide +kernel
theorem dX7_count_27 : decode cX7_count 27 = .ok (.ireturn, 1) := by decide +kernel
theorem dX7_count_28 : decode cX7_count 28 = .ok (.iload_n 1, 1) := by decide +kernel
theorem dX7_count_29 : decode cX7_count 29 = .ok (.tableswitch 84 0 5 #[39, 47, 55, 63, 71, 76], 39) := by decide +kernel
theorem dX7_count_68 : decode cX7_count 68 = .ok (.aload_n 0, 1) := by decide +kernel
theorem dX7_count_69 : decode cX7_count 69 = .ok (.getfield 10, 3) := by decide +kernel
theorem dX7_count_72 : decode cX7_count 72 = .ok (.getfield 217, 3) := by decide +kernel
theorem dX7_count_75 : decode cX7_count 75 = .ok (.ireturn, 1) := by decide +kernel
theorem dX7_count_76 : decode cX7_count 76 = .ok (.aload_n 0, 1) := by decide +kernel
theorem dX7_count_77 : decode cX7_count 77 = .ok (.getfield 10, 3) := by decide +kernel
theorem dX7_count_80 : decode cX7_count 80 = .ok (.getfield 220, 3) := by decide +kernel
theorem dX7_count_83 : decode cX7_count 83 = .ok (.ireturn, 1) := by decide +kernel
theorem dX7_count_84 : decode cX7_count 84 = .ok (.aload_n 0, 1) := by decide +kernel
theorem dX7_count_85 : decode cX7_count 85 = .ok (.getfield 10, 3) := by decide +kernel
theorem dX7_count_88 : decode cX7_count 88 = .ok (.getfield 140, 3) := by decide +kernel
theorem dX7_count_91 : decode cX7_count 91 = .ok (.ireturn, 1) := by decide +kernel
theorem dX7_count_92 : decode cX7_count 92 = .ok (.aload_n 0, 1) := by decide +kernel
theorem dX7_count_93 : decode cX7_count 93 = .ok (.getfield 10, 3) := by decide +kernel
theorem dX7_count_96 : decode cX7_count 96 = .ok (.invokevirtual 223, 3) := by decide +kernel
theorem dX7_count_99 : decode cX7_count 99 = .ok (.ireturn, 1) := by decide +kernel
theorem dX7_count_100 : decode cX7_count 100 = .ok (.aload_n 0, 1) := by decide +kernel
theorem dX7_count_101 : decode cX7_count 101 = .ok (.getfield 52, 3) := by decide +kernel
theorem dX7_count_104 : decode cX7_count 104 = .ok (.ireturn, 1) := by decide +kernel
theorem dX7_count_105 : decode cX7_count 105 = .ok (.aload_n 0, 1) := by decide +kernel
theorem dX7_count_106 : decode cX7_count 106 = .ok (.getfield 25, 3) := by decide +kernel
theorem dX7_count_109 : decode cX7_count 109 = .ok (.getfield 68, 3) := by decide +kernel
theorem dX7_count_112 : decode cX7_count 112 = .ok (.ireturn, 1) := by decide +kernel
theorem dX7_count_113 : decode cX7_count 113 = .ok (.bipush (-9), 2) := by decide +kernel
theorem dX7_count_115 : decode cX7_count 115 = .ok (.ireturn, 1) := by decide +kernel
theorem dX7_refuse_0 : decode cX7_refuse 0 = .ok (.iload_n 1, 1) := by decide +kernel
theorem dX7_refuse_1 : decode cX7_refuse 1 = .ok (.ineg, 1) := by decide +kernel
theorem dX7_refuse_2 : decode cX7_refuse 2 = .ok (.istore_n 2, 1) := by decide +kernel
theorem dX7_refuse_3 : decode cX7_refuse 3 = .ok (.iload_n 2, 1) := by decide +kernel
theorem dX7_refuse_4 : decode cX7_refuse 4 = .ok (.ifCond .lt 22, 3) := by decide +kernel
theorem dX7_refuse_7 : decode cX7_refuse 7 = .ok (.iload_n 2, 1) := by decide +kernel
theorem dX7_refuse_8 : decode cX7_refuse 8 = .ok (.aload_n 0, 1) := by decide +kernel
theorem dX7_refuse_9 : decode cX7_refuse 9 = .ok (.getfield 49, 3) := by decide +kernel
theorem dX7_refuse_12 : decode cX7_refuse 12 = .ok (.arraylength, 1) := by decide +kernel
theorem dX7_refuse_13 : decode cX7_refuse 13 = .ok (.if_icmp .ge 13, 3) := by decide +kernel
theorem dX7_refuse_16 : decode cX7_refuse 16 = .ok (.aload_n 0, 1) := by decide +kernel
theorem dX7_refuse_17 : decode cX7_refuse 17 = .ok (.getfield 49, 3) := by decide +kernel
theorem dX7_refuse_20 : decode cX7_refuse 20 = .ok (.iload_n 2, 1) := by decide +kernel
theorem dX7_refuse_21 : decode cX7_refuse 21 = .ok (.dup2, 1) := by decide +kernel
theorem dX7_refuse_22 : decode cX7_refuse 22 = .ok (.iaload, 1) := by decide +kernel
theorem dX7_refuse_23 : decode cX7_refuse 23 = .ok (.iconst 1, 1) := by decide +kernel
theorem dX7_refuse_24 : decode cX7_refuse 24 = .ok (.iadd, 1) := by decide +kernel
theorem dX7_refuse_25 : decode cX7_refuse 25 = .ok (.iastore, 1) := by decide +kernel
theorem dX7_refuse_26 : decode cX7_refuse 26 = .ok (.iload_n 1, 1) := by decide +kernel
theorem dX7_refuse_27 : decode cX7_refuse 27 = .ok (.ireturn, 1) := by decide +kernel
theorem dX7_tellStatements_0 : decode cX7_tellStatements 0 = .ok (.aload_n 0, 1) := by decide +kernel
theorem dX7_tellStatements_1 : decode cX7_tellStatements 1 = .ok (.getfield 16, 3) := by decide +kernel
theorem dX7_tellStatements_4 : decode cX7_tellStatements 4 = .ok (.aload_n 0, 1) := by decide +kernel
theorem dX7_tellStatements_5 : decode cX7_tellStatements 5 = .ok (.getfield 10, 3) := by decide +kernel
theorem dX7_tellStatements_8 : decode cX7_tellStatements 8 = .ok (.invokevirtual 214, 3) := by decide +kernel
theorem dX7_tellStatements_11 : decode cX7_tellStatements 11 = .ok (.iconst 0, 1) := by decide +kernel
theorem dX7_tellStatements_12 : decode cX7_tellStatements 12 = .ok (.istore_n 1, 1) := by decide +kernel
theorem dX7_tellStatements_13 : decode cX7_tellStatements 13 = .ok (.iconst 0, 1) := by decide +kernel
theorem dX7_tellStatements_14 : decode cX7_tellStatements 14 = .ok (.istore_n 2, 1) := by decide +kernel
theorem dX7_tellStatements_15 : decode cX7_tellStatements 15 = .ok (.iload_n 2, 1) := by decide +kernel
theorem dX7_tellStatements_16 : decode cX7_tellStatements 16 = .ok (.aload_n 0, 1) := by decide +kernel
theorem dX7_tellStatements_17 : decode cX7_tellStatements 17 = .ok (.getfield 25, 3) := by decide +kernel
theorem dX7_tellStatements_20 : decode cX7_tellStatements 20 = .ok (.getfield 68, 3) := by decide +kernel
theorem dX7_tellStatements_23 : decode cX7_tellStatements 23 = .ok (.if_icmp .ge 60, 3) := by decide +kernel
theorem dX7_tellStatements_26 : decode cX7_tellStatements 26 = .ok (.iload_n 1, 1) := by decide +kernel
theorem dX7_tellStatements_27 : decode cX7_tellStatements 27 = .ok (.bipush 64, 2) := by decide +kernel
theorem dX7_tellStatements_29 : decode cX7_tellStatements 29 = .ok (.if_icmp .ge 54, 3) := by decide +kernel
theorem dX7_tellStatements_32 : decode cX7_tellStatements 32 = .ok (.aload_n 0, 1) := by decide +kernel
theorem dX7_tellStatements_33 : decode cX7_tellStatements 33 = .ok (.getfield 25, 3) := by decide +kernel
theorem dX7_tellStatements_36 : decode cX7_tellStatements 36 = .ok (.iload_n 2, 1) := by decide +kernel
theorem dX7_tellStatements_37 : decode cX7_tellStatements 37 = .ok (.invokevirtual 226, 3) := by decide +kernel
theorem dX7_tellStatements_40 : decode cX7_tellStatements 40 = .ok (.istore_n 3, 1) := by decide +kernel
theorem dX7_tellStatements_41 : decode cX7_tellStatements 41 = .ok (.iload_n 3, 1) := by decide +kernel
theorem dX7_tellStatements_42 : decode cX7_tellStatements 42 = .ok (.ifCond .lt 27, 3) := by decide +kernel
theorem dX7_tellStatements_45 : decode cX7_tellStatements 45 = .ok (.aload_n 0, 1) := by decide +kernel
theorem dX7_tellStatements_46 : decode cX7_tellStatements 46 = .ok (.getfield 16, 3) := by decide +kernel
theorem dX7_tellStatements_49 : decode cX7_tellStatements 49 = .ok (.aload_n 0, 1) := by decide +kernel
theorem dX7_tellStatements_50 : decode cX7_tellStatements 50 = .ok (.getfield 25, 3) := by decide +kernel
theorem dX7_tellStatements_53 : decode cX7_tellStatements 53 = .ok (.getfield 229, 3) := by decide +kernel
theorem dX7_tellStatements_56 : decode cX7_tellStatements 56 = .ok (.aload_n 0, 1) := by decide +kernel
theorem dX7_tellStatements_57 : decode cX7_tellStatements 57 = .ok (.getfield 25, 3) := by decide +kernel
theorem dX7_tellStatements_60 : decode cX7_tellStatements 60 = .ok (.getfield 232, 3) := by decide +kernel
theorem dX7_tellStatements_63 : decode cX7_tellStatements 63 = .ok (.invokevirtual 235, 3) := by decide +kernel
theorem dX7_tellStatements_66 : decode cX7_tellStatements 66 = .ok (.ifCond .ne 9, 3) := by decide +kernel
theorem dX7_tellStatements_69 : decode cX7_tellStatements 69 = .ok (.sipush (-2000), 3) := by decide +kernel
theorem dX7_tellStatements_72 : decode cX7_tellStatements 72 = .ok (.iload_n 2, 1) := by decide +kernel
theorem dX7_tellStatements_73 : decode cX7_tellStatements 73 = .ok (.isub, 1) := by decide +kernel
theorem dX7_tellStatements_74 : decode cX7_tellStatements 74 = .ok (.ireturn, 1) := by decide +kernel
theorem dX7_tellStatements_75 : decode cX7_tellStatements 75 = .ok (.iload_n 3, 1) := by decide +kernel
theorem dX7_tellStatements_76 : decode cX7_tellStatements 76 = .ok (.istore_n 2, 1) := by decide +kernel
theorem dX7_tellStatements_77 : decode cX7_tellStatements 77 = .ok (.iinc 1 1, 3) := by decide +kernel
theorem dX7_tellStatements_80 : decode cX7_tellStatements 80 = .ok (.goto (-65), 3) := by decide +kernel
theorem dX7_tellStatements_83 : decode cX7_tellStatements 83 = .ok (.aload_n 0, 1) := by decide +kernel
theorem dX7_tellStatements_84 : decode cX7_tellStatements 84 = .ok (.getfield 16, 3) := by decide +kernel
theorem dX7_tellStatements_87 : decode cX7_tellStatements 87 = .ok (.invokevirtual 239, 3) := by decide +kernel
theorem dX7_tellStatements_90 : decode cX7_tellStatements 90 = .ok (.aload_n 0, 1) := by decide +kernel
theorem dX7_tellStatements_91 : decode cX7_tellStatements 91 = .ok (.getfield 10, 3) := by decide +kernel
theorem dX7_tellStatements_94 : decode cX7_tellStatements 94 = .ok (.aload_n 0, 1) := by decide +kernel
theorem dX7_tellStatements_95 : decode cX7_tellStatements 95 = .ok (.getfield 16, 3) := by decide +kernel
theorem dX7_tellStatements_98 : decode cX7_tellStatements 98 = .ok (.invokevirtual 214, 3) := by decide +kernel
theorem dX7_tellStatements_101 : decode cX7_tellStatements 101 = .ok (.iload_n 1, 1) := by decide +kernel
theorem dX7_tellStatements_102 : decode cX7_tellStatements 102 = .ok (.ireturn, 1) := by decide +kernel
theorem dX7_firstBadInLine_0 : decode cX7_firstBadInLine 0 = .ok (.iconst 0, 1) := by decide +kernel
theorem dX7_firstBadInLine_1 : decode cX7_firstBadInLine 1 = .ok (.istore_n 1, 1) := by decide +kernel
theorem dX7_firstBadInLine_2 : decode cX7_firstBadInLine 2 = .ok (.iconst 0, 1) := by decide +kernel
theorem dX7_firstBadInLine_3 : decode cX7_firstBadInLine 3 = .ok (.istore_n 2, 1) := by decide +kernel
theorem dX7_firstBadInLine_4 : decode cX7_firstBadInLine 4 = .ok (.iload_n 2, 1) := by decide +kernel
theorem dX7_firstBadInLine_5 : decode cX7_firstBadInLine 5 = .ok (.aload_n 0, 1) := by decide +kernel
theorem dX7_firstBadInLine_6 : decode cX7_firstBadInLine 6 = .ok (.getfield 10, 3) := by decide +kernel
theorem dX7_firstBadInLine_9 : decode cX7_firstBadInLine 9 = .ok (.getfield 140, 3) := by decide +kernel
theorem dX7_firstBadInLine_12 : decode cX7_firstBadInLine 12 = .ok (.if_icmp .ge 74, 3) := by decide +kernel
theorem dX7_firstBadInLine_15 : decode cX7_firstBadInLine 15 = .ok (.iload_n 2, 1) := by decide +kernel
theorem dX7_firstBadInLine_16 : decode cX7_firstBadInLine 16 = .ok (.aload_n 0, 1) := by decide +kernel
theorem dX7_firstBadInLine_17 : decode cX7_firstBadInLine 17 = .ok (.getfield 52, 3) := by decide +kernel
theorem dX7_firstBadInLine_20 : decode cX7_firstBadInLine 20 = .ok (.if_icmp .ge 66, 3) := by decide +kernel
theorem dX7_firstBadInLine_23 : decode cX7_firstBadInLine 23 = .ok (.aload_n 0, 1) := by decide +kernel
theorem dX7_firstBadInLine_24 : decode cX7_firstBadInLine 24 = .ok (.getfield 45, 3) := by decide +kernel
theorem dX7_firstBadInLine_27 : decode cX7_firstBadInLine 27 = .ok (.iload_n 2, 1) := by decide +kernel
theorem dX7_firstBadInLine_28 : decode cX7_firstBadInLine 28 = .ok (.iaload, 1) := by decide +kernel
theorem dX7_firstBadInLine_29 : decode cX7_firstBadInLine 29 = .ok (.istore_n 3, 1) := by decide +kernel
theorem dX7_firstBadInLine_30 : decode cX7_firstBadInLine 30 = .ok (.iload_n 3, 1) := by decide +kernel
theorem dX7_firstBadInLine_31 : decode cX7_firstBadInLine 31 = .ok (.bipush 9, 2) := by decide +kernel
theorem dX7_firstBadInLine_33 : decode cX7_firstBadInLine 33 = .ok (.if_icmp .ne 6, 3) := by decide +kernel
theorem dX7_firstBadInLine_36 : decode cX7_firstBadInLine 36 = .ok (.goto 44, 3) := by decide +kernel
theorem dX7_firstBadInLine_39 : decode cX7_firstBadInLine 39 = .ok (.aload_n 0, 1) := by decide +kernel
theorem dX7_firstBadInLine_40 : decode cX7_firstBadInLine 40 = .ok (.getfield 10, 3) := by decide +kernel
theorem dX7_firstBadInLine_43 : decode cX7_firstBadInLine 43 = .ok (.iload_n 3, 1) := by decide +kernel
theorem dX7_firstBadInLine_44 : decode cX7_firstBadInLine 44 = .ok (.invokevirtual 86, 3) := by decide +kernel
theorem dX7_firstBadInLine_47 : decode cX7_firstBadInLine 47 = .ok (.ifCond .eq 25, 3) := by decide +kernel
theorem dX7_firstBadInLine_50 : decode cX7_firstBadInLine 50 = .ok (.iload_n 1, 1) := by decide +kernel
theorem dX7_firstBadInLine_51 : decode cX7_firstBadInLine 51 = .ok (.iload_n 3, 1) := by decide +kernel
theorem dX7_firstBadInLine_52 : decode cX7_firstBadInLine 52 = .ok (.ishr, 1) := by decide +kernel
theorem dX7_firstBadInLine_53 : decode cX7_firstBadInLine 53 = .ok (.iconst 1, 1) := by decide +kernel
theorem dX7_firstBadInLine_54 : decode cX7_firstBadInLine 54 = .ok (.iand, 1) := by decide +kernel
theorem dX7_firstBadInLine_55 : decode cX7_firstBadInLine 55 = .ok (.ifCond .ne 17, 3) := by decide +kernel
theorem dX7_firstBadInLine_58 : decode cX7_firstBadInLine 58 = .ok (.aload_n 0, 1) := by decide +kernel
theorem dX7_firstBadInLine_59 : decode cX7_firstBadInLine 59 = .ok (.getfield 10, 3) := by decide +kernel
theorem dX7_firstBadInLine_62 : decode cX7_firstBadInLine 62 = .ok (.iload_n 3, 1) := by decide +kernel
theorem dX7_firstBadInLine_63 : decode cX7_firstBadInLine 63 = .ok (.iload_n 2, 1) := by decide +kernel
theorem dX7_firstBadInLine_64 : decode cX7_firstBadInLine 64 = .ok (.invokevirtual 180, 3) := by decide +kernel
theorem dX7_firstBadInLine_67 : decode cX7_firstBadInLine 67 = .ok (.bipush (-9), 2) := by decide +kernel
theorem dX7_firstBadInLine_69 : decode cX7_firstBadInLine 69 = .ok (.if_icmp .ne 5, 3) := by decide +kernel
theorem dX7_firstBadInLine_72 : decode cX7_firstBadInLine 72 = .ok (.iload_n 2, 1) := by decide +kernel
theorem dX7_firstBadInLine_73 : decode cX7_firstBadInLine 73 = .ok (.ireturn, 1) := by decide +kernel
theorem dX7_firstBadInLine_74 : decode cX7_firstBadInLine 74 = .ok (.iload_n 1, 1) := by decide +kernel
theorem dX7_firstBadInLine_75 : decode cX7_firstBadInLine 75 = .ok (.iconst 1, 1) := by decide +kernel
theorem dX7_firstBadInLine_76 : decode cX7_firstBadInLine 76 = .ok (.iload_n 3, 1) := by decide +kernel
theorem dX7_firstBadInLine_77 : decode cX7_firstBadInLine 77 = .ok (.ishl, 1) := by decide +kernel
theorem dX7_firstBadInLine_78 : decode cX7_firstBadInLine 78 = .ok (.ior, 1) := by decide +kernel
theorem dX7_firstBadInLine_79 : decode cX7_firstBadInLine 79 = .ok (.istore_n 1, 1) := by decide +kernel
theorem dX7_firstBadInLine_80 : decode cX7_firstBadInLine 80 = .ok (.iinc 2 1, 3) := by decide +kernel
theorem dX7_firstBadInLine_83 : decode cX7_firstBadInLine 83 = .ok (.goto (-79), 3) := by decide +kernel
theorem dX7_firstBadInLine_86 : decode cX7_firstBadInLine 86 = .ok (.aload_n 0, 1) := by decide +kernel
theorem dX7_firstBadInLine_87 : decode cX7_firstBadInLine 87 = .ok (.getfield 52, 3) := by decide +kernel
theorem dX7_firstBadInLine_90 : decode cX7_firstBadInLine 90 = .ok (.aload_n 0, 1) := by decide +kernel
theorem dX7_firstBadInLine_91 : decode cX7_firstBadInLine 91 = .ok (.getfield 10, 3) := by decide +kernel
theorem dX7_firstBadInLine_94 : decode cX7_firstBadInLine 94 = .ok (.getfield 140, 3) := by decide +kernel
theorem dX7_firstBadInLine_97 : decode cX7_firstBadInLine 97 = .ok (.if_icmp .ne 8, 3) := by decide +kernel
theorem dX7_firstBadInLine_100 : decode cX7_firstBadInLine 100 = .ok (.bipush (-9), 2) := by decide +kernel
theorem dX7_firstBadInLine_102 : decode cX7_firstBadInLine 102 = .ok (.goto 17, 3) := by decide +kernel
theorem dX7_firstBadInLine_105 : decode cX7_firstBadInLine 105 = .ok (.aload_n 0, 1) := by decide +kernel
theorem dX7_firstBadInLine_106 : decode cX7_firstBadInLine 106 = .ok (.getfield 52, 3) := by decide +kernel
theorem dX7_firstBadInLine_109 : decode cX7_firstBadInLine 109 = .ok (.aload_n 0, 1) := by decide +kernel
theorem dX7_firstBadInLine_110 : decode cX7_firstBadInLine 110 = .ok (.getfield 10, 3) := by decide +kernel
theorem dX7_firstBadInLine_113 : decode cX7_firstBadInLine 113 = .ok (.getfield 140, 3) := by decide +kernel
theorem dX7_firstBadInLine_116 : decode cX7_firstBadInLine 116 = .ok (.invokestatic 242, 3) := by decide +kernel
theorem dX7_firstBadInLine_119 : decode cX7_firstBadInLine 119 = .ok (.ireturn, 1) := by decide +kernel
theorem dJ9_max_7cf53_0 : decode cJ9_max_7cf53 0 = .ok (.iload_n 0, 1) := by decide +kernel
theorem dJ9_max_7cf53_1 : decode cJ9_max_7cf53 1 = .ok (.iload_n 1, 1) := by decide +kernel
theorem dJ9_max_7cf53_2 : decode cJ9_max_7cf53 2 = .ok (.if_icmp .lt 7, 3) := by decide +kernel
theorem dJ9_max_7cf53_5 : decode cJ9_max_7cf53 5 = .ok (.iload_n 0, 1) := by decide +kernel
theorem dJ9_max_7cf53_6 : decode cJ9_max_7cf53 6 = .ok (.goto 4, 3) := by decide +kernel
theorem dJ9_max_7cf53_9 : decode cJ9_max_7cf53 9 = .ok (.iload_n 1, 1) := by decide +kernel
theorem dJ9_max_7cf53_10 : decode cJ9_max_7cf53 10 = .ok (.ireturn, 1) := by decide +kernel
theorem dJ9_min_7cf53_0 : decode cJ9_min_7cf53 0 = .ok (.iload_n 0, 1) := by decide +kernel
theorem dJ9_min_7cf53_1 : decode cJ9_min_7cf53 1 = .ok (.iload_n 1, 1) := by decide +kernel
theorem dJ9_min_7cf53_2 : decode cJ9_min_7cf53 2 = .ok (.if_icmp .gt 7, 3) := by decide +kernel
theorem dJ9_min_7cf53_5 : decode cJ9_min_7cf53 5 = .ok (.iload_n 0, 1) := by decide +kernel
theorem dJ9_min_7cf53_6 : decode cJ9_min_7cf53 6 = .ok (.goto 4, 3) := by decide +kernel
theorem dJ9_min_7cf53_9 : decode cJ9_min_7cf53 9 = .ok (.iload_n 1, 1) := by decide +kernel
theorem dJ9_min_7cf53_10 : decode cJ9_min_7cf53 10 = .ok (.ireturn, 1) := by decide +kernel
theorem dJ0_length_8abf5_0 : decode cJ0_length_8abf5 0 = .ok (.aload_n 0, 1) := by decide +kernel
theorem dJ0_length_8abf5_1 : decode cJ0_length_8abf5 1 = .ok (.getfield 9, 3) := by decide +kernel
theorem dJ0_length_8abf5_4 : decode cJ0_length_8abf5 4 = .ok (.arraylength, 1) := by decide +kernel
theorem dJ0_length_8abf5_5 : decode cJ0_length_8abf5 5 = .ok (.aload_n 0, 1) := by decide +kernel
theorem dJ0_length_8abf5_6 : decode cJ0_length_8abf5 6 = .ok (.invokevirtual 335, 3) := by decide +kernel
theorem dJ0_length_8abf5_9 : decode cJ0_length_8abf5 9 = .ok (.ishr, 1) := by decide +kernel
theorem dJ0_length_8abf5_10 : decode cJ0_length_8abf5 10 = .ok (.ireturn, 1) := by decide +kernel
theorem dJ0_isEmpty_aae02_0 : decode cJ0_isEmpty_aae02 0 = .ok (.aload_n 0, 1) := by decide +kernel
theorem dJ0_isEmpty_aae02_1 : decode cJ0_isEmpty_aae02 1 = .ok (.getfield 9, 3) := by decide +kernel
theorem dJ0_isEmpty_aae02_4 : decode cJ0_isEmpty_aae02 4 = .ok (.arraylength, 1) := by decide +kernel
theorem dJ0_isEmpty_aae02_5 : decode cJ0_isEmpty_aae02 5 = .ok (.ifCond .ne 7, 3) := by decide +kernel
theorem dJ0_isEmpty_aae02_8 : decode cJ0_isEmpty_aae02 8 = .ok (.iconst 1, 1) := by decide +kernel
theorem dJ0_isEmpty_aae02_9 : decode cJ0_isEmpty_aae02 9 = .ok (.goto 4, 3) := by decide +kernel
theorem dJ0_isEmpty_aae02_12 : decode cJ0_isEmpty_aae02 12 = .ok (.iconst 0, 1) := by decide +kernel
theorem dJ0_isEmpty_aae02_13 : decode cJ0_isEmpty_aae02 13 = .ok (.ireturn, 1) := by decide +kernel
theorem dJ0_charAt_5068e_0 : decode cJ0_charAt_5068e 0 = .ok (.aload_n 0, 1) := by decide +kernel
theorem dJ0_charAt_5068e_1 : decode cJ0_charAt_5068e 1 = .ok (.invokevirtual 492, 3) := by decide +kernel
theorem dJ0_charAt_5068e_4 : decode cJ0_charAt_5068e 4 = .ok (.ifCond .eq 12, 3) := by decide +kernel
theorem dJ0_charAt_5068e_7 : decode cJ0_charAt_5068e 7 = .ok (.aload_n 0, 1) := by decide +kernel
theorem dJ0_charAt_5068e_8 : decode cJ0_charAt_5068e 8 = .ok (.getfield 9, 3) := by decide +kernel
theorem dJ0_charAt_5068e_11 : decode cJ0_charAt_5068e 11 = .ok (.iload_n 1, 1) := by decide +kernel
theorem dJ0_charAt_5068e_12 : decode cJ0_charAt_5068e 12 = .ok (.invokestatic 495, 3) := by decide +kernel
theorem dJ0_charAt_5068e_15 : decode cJ0_charAt_5068e 15 = .ok (.ireturn, 1) := by decide +kernel
theorem dJ0_charAt_5068e_16 : decode cJ0_charAt_5068e 16 = .ok (.aload_n 0, 1) := by decide +kernel
theorem dJ0_charAt_5068e_17 : decode cJ0_charAt_5068e 17 = .ok (.getfield 9, 3) := by decide +kernel
theorem dJ0_charAt_5068e_20 : decode cJ0_charAt_5068e 20 = .ok (.iload_n 1, 1) := by decide +kernel
theorem dJ0_charAt_5068e_21 : decode cJ0_charAt_5068e 21 = .ok (.invokestatic 498, 3) := by decide +kernel
theorem dJ0_charAt_5068e_24 : decode cJ0_charAt_5068e 24 = .ok (.ireturn, 1) := by decide +kernel
theorem dJ0_coder_7d493_0 : decode cJ0_coder_7d493 0 = .ok (.getstatic 38, 3) := by decide +kernel
theorem dJ0_coder_7d493_3 : decode cJ0_coder_7d493 3 = .ok (.ifCond .eq 10, 3) := by decide +kernel
theorem dJ0_coder_7d493_6 : decode cJ0_coder_7d493 6 = .ok (.aload_n 0, 1) := by decide +kernel
theorem dJ0_coder_7d493_7 : decode cJ0_coder_7d493 7 = .ok (.getfield 15, 3) := by decide +kernel
theorem dJ0_coder_7d493_10 : decode cJ0_coder_7d493 10 = .ok (.goto 4, 3) := by decide +kernel
theorem dJ0_coder_7d493_13 : decode cJ0_coder_7d493 13 = .ok (.iconst 1, 1) := by decide +kernel
theorem dJ0_coder_7d493_14 : decode cJ0_coder_7d493 14 = .ok (.ireturn, 1) := by decide +kernel
theorem dJ0_isLatin1_aae02_0 : decode cJ0_isLatin1_aae02 0 = .ok (.getstatic 38, 3) := by decide +kernel
theorem dJ0_isLatin1_aae02_3 : decode cJ0_isLatin1_aae02 3 = .ok (.ifCond .eq 14, 3) := by decide +kernel
theorem dJ0_isLatin1_aae02_6 : decode cJ0_isLatin1_aae02 6 = .ok (.aload_n 0, 1) := by decide +kernel
theorem dJ0_isLatin1_aae02_7 : decode cJ0_isLatin1_aae02 7 = .ok (.getfield 15, 3) := by decide +kernel
theorem dJ0_isLatin1_aae02_10 : decode cJ0_isLatin1_aae02 10 = .ok (.ifCond .ne 7, 3) := by decide +kernel
theorem dJ0_isLatin1_aae02_13 : decode cJ0_isLatin1_aae02 13 = .ok (.iconst 1, 1) := by decide +kernel
theorem dJ0_isLatin1_aae02_14 : decode cJ0_isLatin1_aae02 14 = .ok (.goto 4, 3) := by decide +kernel
theorem dJ0_isLatin1_aae02_17 : decode cJ0_isLatin1_aae02 17 = .ok (.iconst 0, 1) := by decide +kernel
theorem dJ0_isLatin1_aae02_18 : decode cJ0_isLatin1_aae02 18 = .ok (.ireturn, 1) := by decide +kernel
theorem dJ0_checkIndex_df160_0 : decode cJ0_checkIndex_df160 0 = .ok (.iload_n 0, 1) := by decide +kernel
theorem dJ0_checkIndex_df160_1 : decode cJ0_checkIndex_df160 1 = .ok (.iload_n 1, 1) := by decide +kernel
theorem dJ0_checkIndex_df160_2 : decode cJ0_checkIndex_df160 2 = .ok (.getstatic 1053, 3) := by decide +kernel
theorem dJ0_checkIndex_df160_5 : decode cJ0_checkIndex_df160 5 = .ok (.invokestatic 1059, 3) := by decide +kernel
theorem dJ0_checkIndex_df160_8 : decode cJ0_checkIndex_df160 8 = .ok (.pop, 1) := by decide +kernel
theorem dJ0_checkIndex_df160_9 : decode cJ0_checkIndex_df160 9 = .ok (.return_, 1) := by decide +kernel
theorem dJ1_charAt_3b067_0 : decode cJ1_charAt_3b067 0 = .ok (.iload_n 1, 1) := by decide +kernel
theorem dJ1_charAt_3b067_1 : decode cJ1_charAt_3b067 1 = .ok (.aload_n 0, 1) := by decide +kernel
theorem dJ1_charAt_3b067_2 : decode cJ1_charAt_3b067 2 = .ok (.arraylength, 1) := by decide +kernel
theorem dJ1_charAt_3b067_3 : decode cJ1_charAt_3b067 3 = .ok (.invokestatic 9, 3) := by decide +kernel
theorem dJ1_charAt_3b067_6 : decode cJ1_charAt_3b067 6 = .ok (.aload_n 0, 1) := by decide +kernel
theorem dJ1_charAt_3b067_7 : decode cJ1_charAt_3b067 7 = .ok (.iload_n 1, 1) := by decide +kernel
theorem dJ1_charAt_3b067_8 : decode cJ1_charAt_3b067 8 = .ok (.baload, 1) := by decide +kernel
theorem dJ1_charAt_3b067_9 : decode cJ1_charAt_3b067 9 = .ok (.sipush 255, 3) := by decide +kernel
theorem dJ1_charAt_3b067_12 : decode cJ1_charAt_3b067 12 = .ok (.iand, 1) := by decide +kernel
theorem dJ1_charAt_3b067_13 : decode cJ1_charAt_3b067 13 = .ok (.i2c, 1) := by decide +kernel
theorem dJ1_charAt_3b067_14 : decode cJ1_charAt_3b067 14 = .ok (.ireturn, 1) := by decide +kernel
theorem dJ2_getChar_3b067_0 : decode cJ2_getChar_3b067 0 = .ok (.getstatic 44, 3) := by decide +kernel
theorem dJ2_getChar_3b067_3 : decode cJ2_getChar_3b067 3 = .ok (.ifCond .ne 25, 3) := by decide +kernel
theorem dJ2_getChar_3b067_6 : decode cJ2_getChar_3b067 6 = .ok (.iload_n 1, 1) := by decide +kernel
theorem dJ2_getChar_3b067_7 : decode cJ2_getChar_3b067 7 = .ok (.ifCond .lt 11, 3) := by decide +kernel
theorem dJ2_getChar_3b067_10 : decode cJ2_getChar_3b067 10 = .ok (.iload_n 1, 1) := by decide +kernel
theorem dJ2_getChar_3b067_11 : decode cJ2_getChar_3b067 11 = .ok (.aload_n 0, 1) := by decide +kernel
theorem dJ2_getChar_3b067_12 : decode cJ2_getChar_3b067 12 = .ok (.invokestatic 48, 3) := by decide +kernel
theorem dJ2_getChar_3b067_15 : decode cJ2_getChar_3b067 15 = .ok (.if_icmp .lt 13, 3) := by decide +kernel
theorem dJ2_getChar_3b067_18 : decode cJ2_getChar_3b067 18 = .ok (.new 52, 3) := by decide +kernel
theorem dJ2_getChar_3b067_21 : decode cJ2_getChar_3b067 21 = .ok (.dup, 1) := by decide +kernel
theorem dJ2_getChar_3b067_22 : decode cJ2_getChar_3b067 22 = .ok (.ldc 54, 2) := by decide +kernel
theorem dJ2_getChar_3b067_24 : decode cJ2_getChar_3b067 24 = .ok (.invokespecial 56, 3) := by decide +kernel
theorem dJ2_getChar_3b067_27 : decode cJ2_getChar_3b067 27 = .ok (.athrow, 1) := by decide +kernel
theorem dJ2_getChar_3b067_28 : decode cJ2_getChar_3b067 28 = .ok (.iload_n 1, 1) := by decide +kernel
theorem dJ2_getChar_3b067_29 : decode cJ2_getChar_3b067 29 = .ok (.iconst 1, 1) := by decide +kernel
theorem dJ2_getChar_3b067_30 : decode cJ2_getChar_3b067 30 = .ok (.ishl, 1) := by decide +kernel
theorem dJ2_getChar_3b067_31 : decode cJ2_getChar_3b067 31 = .ok (.istore_n 1, 1) := by decide +kernel
theorem dJ2_getChar_3b067_32 : decode cJ2_getChar_3b067 32 = .ok (.aload_n 0, 1) := by decide +kernel
theorem dJ2_getChar_3b067_33 : decode cJ2_getChar_3b067 33 = .ok (.iload_n 1, 1) := by decide +kernel
theorem dJ2_getChar_3b067_34 : decode cJ2_getChar_3b067 34 = .ok (.iinc 1 1, 3) := by decide +kernel
theorem dJ2_getChar_3b067_37 : decode cJ2_getChar_3b067 37 = .ok (.baload, 1) := by decide +kernel
theorem dJ2_getChar_3b067_38 : decode cJ2_getChar_3b067 38 = .ok (.sipush 255, 3) := by decide +kernel
theorem dJ2_getChar_3b067_41 : decode cJ2_getChar_3b067 41 = .ok (.iand, 1) := by decide +kernel
theorem dJ2_getChar_3b067_42 : decode cJ2_getChar_3b067 42 = .ok (.getstatic 59, 3) := by decide +kernel
theorem dJ2_getChar_3b067_45 : decode cJ2_getChar_3b067 45 = .ok (.ishl, 1) := by decide +kernel
theorem dJ2_getChar_3b067_46 : decode cJ2_getChar_3b067 46 = .ok (.aload_n 0, 1) := by decide +kernel
theorem dJ2_getChar_3b067_47 : decode cJ2_getChar_3b067 47 = .ok (.iload_n 1, 1) := by decide +kernel
theorem dJ2_getChar_3b067_48 : decode cJ2_getChar_3b067 48 = .ok (.baload, 1) := by decide +kernel
theorem dJ2_getChar_3b067_49 : decode cJ2_getChar_3b067 49 = .ok (.sipush 255, 3) := by decide +kernel
theorem dJ2_getChar_3b067_52 : decode cJ2_getChar_3b067 52 = .ok (.iand, 1) := by decide +kernel
theorem dJ2_getChar_3b067_53 : decode cJ2_getChar_3b067 53 = .ok (.getstatic 63, 3) := by decide +kernel
theorem dJ2_getChar_3b067_56 : decode cJ2_getChar_3b067 56 = .ok (.ishl, 1) := by decide +kernel
theorem dJ2_getChar_3b067_57 : decode cJ2_getChar_3b067 57 = .ok (.ior, 1) := by decide +kernel
theorem dJ2_getChar_3b067_58 : decode cJ2_getChar_3b067 58 = .ok (.i2c, 1) := by decide +kernel
theorem dJ2_getChar_3b067_59 : decode cJ2_getChar_3b067 59 = .ok (.ireturn, 1) := by decide +kernel
theorem dJ2_length_9d52b_0 : decode cJ2_length_9d52b 0 = .ok (.aload_n 0, 1) := by decide +kernel
theorem dJ2_length_9d52b_1 : decode cJ2_length_9d52b 1 = .ok (.arraylength, 1) := by decide +kernel
theorem dJ2_length_9d52b_2 : decode cJ2_length_9d52b 2 = .ok (.iconst 1, 1) := by decide +kernel
theorem dJ2_length_9d52b_3 : decode cJ2_length_9d52b 3 = .ok (.ishr, 1) := by decide +kernel
theorem dJ2_length_9d52b_4 : decode cJ2_length_9d52b 4 = .ok (.ireturn, 1) := by decide +kernel
theorem dJ2_charAt_3b067_0 : decode cJ2_charAt_3b067 0 = .ok (.iload_n 1, 1) := by decide +kernel
theorem dJ2_charAt_3b067_1 : decode cJ2_charAt_3b067 1 = .ok (.aload_n 0, 1) := by decide +kernel
theorem dJ2_charAt_3b067_2 : decode cJ2_charAt_3b067 2 = .ok (.invokestatic 67, 3) := by decide +kernel
theorem dJ2_charAt_3b067_5 : decode cJ2_charAt_3b067 5 = .ok (.aload_n 0, 1) := by decide +kernel
theorem dJ2_charAt_3b067_6 : decode cJ2_charAt_3b067 6 = .ok (.iload_n 1, 1) := by decide +kernel
theorem dJ2_charAt_3b067_7 : decode cJ2_charAt_3b067 7 = .ok (.invokestatic 71, 3) := by decide +kernel
theorem dJ2_charAt_3b067_10 : decode cJ2_charAt_3b067 10 = .ok (.ireturn, 1) := by decide +kernel
theorem dJ2_checkIndex_2214a_0 : decode cJ2_checkIndex_2214a 0 = .ok (.iload_n 0, 1) := by decide +kernel
theorem dJ2_checkIndex_2214a_1 : decode cJ2_checkIndex_2214a 1 = .ok (.aload_n 1, 1) := by decide +kernel
theorem dJ2_checkIndex_2214a_2 : decode cJ2_checkIndex_2214a 2 = .ok (.invokestatic 48, 3) := by decide +kernel
theorem dJ2_checkIndex_2214a_5 : decode cJ2_checkIndex_2214a 5 = .ok (.invokestatic 414, 3) := by decide +kernel
theorem dJ2_checkIndex_2214a_8 : decode cJ2_checkIndex_2214a 8 = .ok (.return_, 1) := by decide +kernel
theorem dJ7_fill_53178_0 : decode cJ7_fill_53178 0 = .ok (.iconst 0, 1) := by decide +kernel
theorem dJ7_fill_53178_1 : decode cJ7_fill_53178 1 = .ok (.istore_n 2, 1) := by decide +kernel
theorem dJ7_fill_53178_2 : decode cJ7_fill_53178 2 = .ok (.aload_n 0, 1) := by decide +kernel
theorem dJ7_fill_53178_3 : decode cJ7_fill_53178 3 = .ok (.arraylength, 1) := by decide +kernel
theorem dJ7_fill_53178_4 : decode cJ7_fill_53178 4 = .ok (.istore_n 3, 1) := by decide +kernel
theorem dJ7_fill_53178_5 : decode cJ7_fill_53178 5 = .ok (.iload_n 2, 1) := by decide +kernel
theorem dJ7_fill_53178_6 : decode cJ7_fill_53178 6 = .ok (.iload_n 3, 1) := by decide +kernel
theorem dJ7_fill_53178_7 : decode cJ7_fill_53178 7 = .ok (.if_icmp .ge 13, 3) := by decide +kernel
theorem dJ7_fill_53178_10 : decode cJ7_fill_53178 10 = .ok (.aload_n 0, 1) := by decide +kernel
theorem dJ7_fill_53178_11 : decode cJ7_fill_53178 11 = .ok (.iload_n 2, 1) := by decide +kernel
theorem dJ7_fill_53178_12 : decode cJ7_fill_53178 12 = .ok (.iload_n 1, 1) := by decide +kernel
theorem dJ7_fill_53178_13 : decode cJ7_fill_53178 13 = .ok (.iastore, 1) := by decide +kernel
theorem dJ7_fill_53178_14 : decode cJ7_fill_53178 14 = .ok (.iinc 2 1, 3) := by decide +kernel
theorem dJ7_fill_53178_17 : decode cJ7_fill_53178 17 = .ok (.goto (-12), 3) := by decide +kernel
theorem dJ7_fill_53178_20 : decode cJ7_fill_53178 20 = .ok (.return_, 1) := by decide +kernel
theorem dJ3_checkIndex_8e157_0 : decode cJ3_checkIndex_8e157 0 = .ok (.iload_n 0, 1) := by decide +kernel
theorem dJ3_checkIndex_8e157_1 : decode cJ3_checkIndex_8e157 1 = .ok (.ifCond .lt 8, 3) := by decide +kernel
theorem dJ3_checkIndex_8e157_4 : decode cJ3_checkIndex_8e157 4 = .ok (.iload_n 0, 1) := by decide +kernel
theorem dJ3_checkIndex_8e157_5 : decode cJ3_checkIndex_8e157 5 = .ok (.iload_n 1, 1) := by decide +kernel
theorem dJ3_checkIndex_8e157_6 : decode cJ3_checkIndex_8e157 6 = .ok (.if_icmp .lt 10, 3) := by decide +kernel
theorem dJ3_checkIndex_8e157_9 : decode cJ3_checkIndex_8e157 9 = .ok (.aload_n 2, 1) := by decide +kernel
theorem dJ3_checkIndex_8e157_10 : decode cJ3_checkIndex_8e157 10 = .ok (.iload_n 0, 1) := by decide +kernel
theorem dJ3_checkIndex_8e157_11 : decode cJ3_checkIndex_8e157 11 = .ok (.iload_n 1, 1) := by decide +kernel
theorem dJ3_checkIndex_8e157_12 : decode cJ3_checkIndex_8e157 12 = .ok (.invokestatic 95, 3) := by decide +kernel
theorem dJ3_checkIndex_8e157_15 : decode cJ3_checkIndex_8e157 15 = .ok (.athrow, 1) := by decide +kernel
theorem dJ3_checkIndex_8e157_16 : decode cJ3_checkIndex_8e157 16 = .ok (.iload_n 0, 1) := by decide +kernel
theorem dJ3_checkIndex_8e157_17 : decode cJ3_checkIndex_8e157 17 = .ok (.ireturn, 1) := by decide +kernel
end
section
theorem dL_law_0 : decode cL_law 0 = .ok (.new 7, 3) := by decide +kernel
theorem dL_law_3 : decode cL_law 3 = .ok (.dup, 1) := by decide +kernel
theorem dL_law_4 : decode cL_law 4 = .ok (.invokespecial 9, 3) := by decide +kernel
theorem dL_law_7 : decode cL_law 7 = .ok (.astore_n 1, 1) := by decide +kernel
theorem dL_law_8 : decode cL_law 8 = .ok (.new 10, 3) := by decide +kernel
theorem dL_law_11 : decode cL_law 11 = .ok (.dup, 1) := by decide +kernel
theorem dL_law_12 : decode cL_law 12 = .ok (.invokespecial 12, 3) := by decide +kernel
theorem dL_law_15 : decode cL_law 15 = .ok (.astore_n 2, 1) := by decide +kernel
theorem dL_law_16 : decode cL_law 16 = .ok (.iconst 0, 1) := by decide +kernel
theorem dL_law_17 : decode cL_law 17 = .ok (.istore_n 3, 1) := by decide +kernel
theorem dL_law_18 : decode cL_law 18 = .ok (.iload_n 3, 1) := by decide +kernel
theorem dL_law_19 : decode cL_law 19 = .ok (.aload_n 0, 1) := by decide +kernel
theorem dL_law_20 : decode cL_law 20 = .ok (.arraylength, 1) := by decide +kernel
theorem dL_law_21 : decode cL_law 21 = .ok (.iconst 4, 1) := by decide +kernel
theorem dL_law_22 : decode cL_law 22 = .ok (.isub, 1) := by decide +kernel
theorem dL_law_23 : decode cL_law 23 = .ok (.if_icmp .gt 938, 3) := by decide +kernel
theorem dL_law_26 : decode cL_law 26 = .ok (.aload_n 0, 1) := by decide +kernel
theorem dL_law_27 : decode cL_law 27 = .ok (.iload_n 3, 1) := by decide +kernel
theorem dL_law_28 : decode cL_law 28 = .ok (.iaload, 1) := by decide +kernel
theorem dL_law_29 : decode cL_law 29 = .ok (.bipush 31, 2) := by decide +kernel
theorem dL_law_31 : decode cL_law 31 = .ok (.iand, 1) := by decide +kernel
theorem dL_law_32 : decode cL_law 32 = .ok (.tableswitch 923 0 30 #[140, 163, 176, 209, 242, 275, 298, 341, 374, 407, 440, 483, 516, 549, 562, 585, 618, 641, 654, 677, 720, 743, 766, 779, 792, 805, 838, 861, 874, 887, 900], 140) := by decide +kernel
theorem dL_law_172 : decode cL_law 172 = .ok (.aload_n 1, 1) := by decide +kernel
theorem dL_law_173 : decode cL_law 173 = .ok (.aload_n 0, 1) := by decide +kernel
theorem dL_law_174 : decode cL_law 174 = .ok (.iload_n 3, 1) := by decide +kernel
theorem dL_law_175 : decode cL_law 175 = .ok (.iconst 1, 1) := by decide +kernel
theorem dL_law_176 : decode cL_law 176 = .ok (.iadd, 1) := by decide +kernel
theorem dL_law_177 : decode cL_law 177 = .ok (.iaload, 1) := by decide +kernel
theorem dL_law_178 : decode cL_law 178 = .ok (.invokevirtual 13, 3) := by decide +kernel
theorem dL_law_181 : decode cL_law 181 = .ok (.aload_n 2, 1) := by decide +kernel
theorem dL_law_182 : decode cL_law 182 = .ok (.aload_n 0, 1) := by decide +kernel
theorem dL_law_183 : decode cL_law 183 = .ok (.iload_n 3, 1) := by decide +kernel
theorem dL_law_184 : decode cL_law 184 = .ok (.iconst 1, 1) := by decide +kernel
theorem dL_law_185 : decode cL_law 185 = .ok (.iadd, 1) := by decide +kernel
theorem dL_law_186 : decode cL_law 186 = .ok (.iaload, 1) := by decide +kernel
theorem dL_law_187 : decode cL_law 187 = .ok (.invokevirtual 17, 3) := by decide +kernel
theorem dL_law_190 : decode cL_law 190 = .ok (.if_icmp .eq 765, 3) := by decide +kernel
theorem dL_law_193 : decode cL_law 193 = .ok (.iconst 0, 1) := by decide +kernel
theorem dL_law_194 : decode cL_law 194 = .ok (.ireturn, 1) := by decide +kernel
theorem dL_law_195 : decode cL_law 195 = .ok (.aload_n 1, 1) := by decide +kernel
theorem dL_law_196 : decode cL_law 196 = .ok (.invokevirtual 18, 3) := by decide +kernel
theorem dL_law_199 : decode cL_law 199 = .ok (.aload_n 2, 1) := by decide +kernel
theorem dL_law_200 : decode cL_law 200 = .ok (.invokevirtual 22, 3) := by decide +kernel
theorem dL_law_203 : decode cL_law 203 = .ok (.if_icmp .eq 752, 3) := by decide +kernel
theorem dL_law_206 : decode cL_law 206 = .ok (.iconst 0, 1) := by decide +kernel
theorem dL_law_207 : decode cL_law 207 = .ok (.ireturn, 1) := by decide +kernel
theorem dL_law_208 : decode cL_law 208 = .ok (.aload_n 1, 1) := by decide +kernel
theorem dL_law_209 : decode cL_law 209 = .ok (.aload_n 0, 1) := by decide +kernel
theorem dL_law_210 : decode cL_law 210 = .ok (.iload_n 3, 1) := by decide +kernel
theorem dL_law_211 : decode cL_law 211 = .ok (.iconst 1, 1) := by decide +kernel
theorem dL_law_212 : decode cL_law 212 = .ok (.iadd, 1) := by decide +kernel
theorem dL_law_213 : decode cL_law 213 = .ok (.iaload, 1) := by decide +kernel
theorem dL_law_214 : decode cL_law 214 = .ok (.aload_n 0, 1) := by decide +kernel
theorem dL_law_215 : decode cL_law 215 = .ok (.iload_n 3, 1) := by decide +kernel
theorem dL_law_216 : decode cL_law 216 = .ok (.iconst 2, 1) := by decide +kernel
theorem dL_law_217 : decode cL_law 217 = .ok (.iadd, 1) := by decide +kernel
theorem dL_law_218 : decode cL_law 218 = .ok (.iaload, 1) := by decide +kernel
theorem dL_law_219 : decode cL_law 219 = .ok (.invokevirtual 23, 3) := by decide +kernel
theorem dL_law_222 : decode cL_law 222 = .ok (.aload_n 2, 1) := by decide +kernel
theorem dL_law_223 : decode cL_law 223 = .ok (.aload_n 0, 1) := by decide +kernel
theorem dL_law_224 : decode cL_law 224 = .ok (.iload_n 3, 1) := by decide +kernel
theorem dL_law_225 : decode cL_law 225 = .ok (.iconst 1, 1) := by decide +kernel
theorem dL_law_226 : decode cL_law 226 = .ok (.iadd, 1) := by decide +kernel
theorem dL_law_227 : decode cL_law 227 = .ok (.iaload, 1) := by decide +kernel
theorem dL_law_228 : decode cL_law 228 = .ok (.aload_n 0, 1) := by decide +kernel
theorem dL_law_229 : decode cL_law 229 = .ok (.iload_n 3, 1) := by decide +kernel
theorem dL_law_230 : decode cL_law 230 = .ok (.iconst 2, 1) := by decide +kernel
theorem dL_law_231 : decode cL_law 231 = .ok (.iadd, 1) := by decide +kernel
theorem dL_law_232 : decode cL_law 232 = .ok (.iaload, 1) := by decide +kernel
theorem dL_law_233 : decode cL_law 233 = .ok (.invokevirtual 27, 3) := by decide +kernel
theorem dL_law_236 : decode cL_law 236 = .ok (.if_icmp .eq 719, 3) := by decide +kernel
theorem dL_law_239 : decode cL_law 239 = .ok (.iconst 0, 1) := by decide +kernel
theorem dL_law_240 : decode cL_law 240 = .ok (.ireturn, 1) := by decide +kernel
theorem dL_law_241 : decode cL_law 241 = .ok (.aload_n 1, 1) := by decide +kernel
theorem dL_law_242 : decode cL_law 242 = .ok (.aload_n 0, 1) := by decide +kernel
theorem dL_law_243 : decode cL_law 243 = .ok (.iload_n 3, 1) := by decide +kernel
theorem dL_law_244 : decode cL_law 244 = .ok (.iconst 1, 1) := by decide +kernel
theorem dL_law_245 : decode cL_law 245 = .ok (.iadd, 1) := by decide +kernel
theorem dL_law_246 : decode cL_law 246 = .ok (.iaload, 1) := by decide +kernel
theorem dL_law_247 : decode cL_law 247 = .ok (.aload_n 0, 1) := by decide +kernel
theorem dL_law_248 : decode cL_law 248 = .ok (.iload_n 3, 1) := by decide +kernel
theorem dL_law_249 : decode cL_law 249 = .ok (.iconst 2, 1) := by decide +kernel
theorem dL_law_250 : decode cL_law 250 = .ok (.iadd, 1) := by decide +kernel
theorem dL_law_251 : decode cL_law 251 = .ok (.iaload, 1) := by decide +kernel
theorem dL_law_252 : decode cL_law 252 = .ok (.invokevirtual 28, 3) := by decide +kernel
theorem dL_law_255 : decode cL_law 255 = .ok (.aload_n 2, 1) := by decide +kernel
theorem dL_law_256 : decode cL_law 256 = .ok (.aload_n 0, 1) := by decide +kernel
theorem dL_law_257 : decode cL_law 257 = .ok (.iload_n 3, 1) := by decide +kernel
theorem dL_law_258 : decode cL_law 258 = .ok (.iconst 1, 1) := by decide +kernel
theorem dL_law_259 : decode cL_law 259 = .ok (.iadd, 1) := by decide +kernel
theorem dL_law_260 : decode cL_law 260 = .ok (.iaload, 1) := by decide +kernel
theorem dL_law_261 : decode cL_law 261 = .ok (.aload_n 0, 1) := by decide +kernel
theorem dL_law_262 : decode cL_law 262 = .ok (.iload_n 3, 1) := by decide +kernel
theorem dL_law_263 : decode cL_law 263 = .ok (.iconst 2, 1) := by decide +kernel
theorem dL_law_264 : decode cL_law 264 = .ok (.iadd, 1) := by decide +kernel
theorem dL_law_265 : decode cL_law 265 = .ok (.iaload, 1) := by decide +kernel
theorem dL_law_266 : decode cL_law 266 = .ok (.invokevirtual 31, 3) := by decide +kernel
theorem dL_law_269 : decode cL_law 269 = .ok (.if_icmp .eq 686, 3) := by decide +kernel
theorem dL_law_272 : decode cL_law 272 = .ok (.iconst 0, 1) := by decide +kernel
theorem dL_law_273 : decode cL_law 273 = .ok (.ireturn, 1) := by decide +kernel
theorem dL_law_274 : decode cL_law 274 = .ok (.aload_n 1, 1) := by decide +kernel
theorem dL_law_275 : decode cL_law 275 = .ok (.aload_n 0, 1) := by decide +kernel
theorem dL_law_276 : decode cL_law 276 = .ok (.iload_n 3, 1) := by decide +kernel
theorem dL_law_277 : decode cL_law 277 = .ok (.iconst 1, 1) := by decide +kernel
theorem dL_law_278 : decode cL_law 278 = .ok (.iadd, 1) := by decide +kernel
theorem dL_law_279 : decode cL_law 279 = .ok (.iaload, 1) := by decide +kernel
theorem dL_law_280 : decode cL_law 280 = .ok (.aload_n 0, 1) := by decide +kernel
theorem dL_law_281 : decode cL_law 281 = .ok (.iload_n 3, 1) := by decide +kernel
theorem dL_law_282 : decode cL_law 282 = .ok (.iconst 2, 1) := by decide +kernel
theorem dL_law_283 : decode cL_law 283 = .ok (.iadd, 1) := by decide +kernel
theorem dL_law_284 : decode cL_law 284 = .ok (.iaload, 1) := by decide +kernel
theorem dL_law_285 : decode cL_law 285 = .ok (.invokevirtual 32, 3) := by decide +kernel
theorem dL_law_288 : decode cL_law 288 = .ok (.aload_n 2, 1) := by decide +kernel
theorem dL_law_289 : decode cL_law 289 = .ok (.aload_n 0, 1) := by decide +kernel
theorem dL_law_290 : decode cL_law 290 = .ok (.iload_n 3, 1) := by decide +kernel
theorem dL_law_291 : decode cL_law 291 = .ok (.iconst 1, 1) := by decide +kernel
theorem dL_law_292 : decode cL_law 292 = .ok (.iadd, 1) := by decide +kernel
theorem dL_law_293 : decode cL_law 293 = .ok (.iaload, 1) := by decide +kernel
theorem dL_law_294 : decode cL_law 294 = .ok (.aload_n 0, 1) := by decide +kernel
theorem dL_law_295 : decode cL_law 295 = .ok (.iload_n 3, 1) := by decide +kernel
theorem dL_law_296 : decode cL_law 296 = .ok (.iconst 2, 1) := by decide +kernel
theorem dL_law_297 : decode cL_law 297 = .ok (.iadd, 1) := by decide +kernel
theorem dL_law_298 : decode cL_law 298 = .ok (.iaload, 1) := by decide +kernel
theorem dL_law_299 : decode cL_law 299 = .ok (.invokevirtual 35, 3) := by decide +kernel
theorem dL_law_302 : decode cL_law 302 = .ok (.if_icmp .eq 653, 3) := by decide +kernel
theorem dL_law_305 : decode cL_law 305 = .ok (.iconst 0, 1) := by decide +kernel
theorem dL_law_306 : decode cL_law 306 = .ok (.ireturn, 1) := by decide +kernel
theorem dL_law_307 : decode cL_law 307 = .ok (.aload_n 1, 1) := by decide +kernel
theorem dL_law_308 : decode cL_law 308 = .ok (.aload_n 0, 1) := by decide +kernel
theorem dL_law_309 : decode cL_law 309 = .ok (.iload_n 3, 1) := by decide +kernel
theorem dL_law_310 : decode cL_law 310 = .ok (.iconst 1, 1) := by decide +kernel
theorem dL_law_311 : decode cL_law 311 = .ok (.iadd, 1) := by decide +kernel
theorem dL_law_312 : decode cL_law 312 = .ok (.iaload, 1) := by decide +kernel
theorem dL_law_313 : decode cL_law 313 = .ok (.invokevirtual 36, 3) := by decide +kernel
theorem dL_law_316 : decode cL_law 316 = .ok (.aload_n 2, 1) := by decide +kernel
theorem dL_law_317 : decode cL_law 317 = .ok (.aload_n 0, 1) := by decide +kernel
theorem dL_law_318 : decode cL_law 318 = .ok (.iload_n 3, 1) := by decide +kernel
theorem dL_law_319 : decode cL_law 319 = .ok (.iconst 1, 1) := by decide +kernel
theorem dL_law_320 : decode cL_law 320 = .ok (.iadd, 1) := by decide +kernel
theorem dL_law_321 : decode cL_law 321 = .ok (.iaload, 1) := by decide +kernel
theorem dL_law_322 : decode cL_law 322 = .ok (.invokevirtual 39, 3) := by decide +kernel
theorem dL_law_325 : decode cL_law 325 = .ok (.if_icmp .eq 630, 3) := by decide +kernel
theorem dL_law_328 : decode cL_law 328 = .ok (.iconst 0, 1) := by decide +kernel
theorem dL_law_329 : decode cL_law 329 = .ok (.ireturn, 1) := by decide +kernel
theorem dL_law_330 : decode cL_law 330 = .ok (.aload_n 1, 1) := by decide +kernel
theorem dL_law_331 : decode cL_law 331 = .ok (.aload_n 0, 1) := by decide +kernel
theorem dL_law_332 : decode cL_law 332 = .ok (.iload_n 3, 1) := by decide +kernel
theorem dL_law_333 : decode cL_law 333 = .ok (.iconst 1, 1) := by decide +kernel
theorem dL_law_334 : decode cL_law 334 = .ok (.iadd, 1) := by decide +kernel
theorem dL_law_335 : decode cL_law 335 = .ok (.iaload, 1) := by decide +kernel
theorem dL_law_336 : decode cL_law 336 = .ok (.aload_n 0, 1) := by decide +kernel
theorem dL_law_337 : decode cL_law 337 = .ok (.iload_n 3, 1) := by decide +kernel
theorem dL_law_338 : decode cL_law 338 = .ok (.iconst 2, 1) := by decide +kernel
theorem dL_law_339 : decode cL_law 339 = .ok (.iadd, 1) := by decide +kernel
theorem dL_law_340 : decode cL_law 340 = .ok (.iaload, 1) := by decide +kernel
theorem dL_law_341 : decode cL_law 341 = .ok (.aload_n 0, 1) := by decide +kernel
theorem dL_law_342 : decode cL_law 342 = .ok (.iload_n 3, 1) := by decide +kernel
theorem dL_law_343 : decode cL_law 343 = .ok (.iconst 3, 1) := by decide +kernel
theorem dL_law_344 : decode cL_law 344 = .ok (.iadd, 1) := by decide +kernel
theorem dL_law_345 : decode cL_law 345 = .ok (.iaload, 1) := by decide +kernel
theorem dL_law_346 : decode cL_law 346 = .ok (.invokevirtual 40, 3) := by decide +kernel
theorem dL_law_349 : decode cL_law 349 = .ok (.aload_n 2, 1) := by decide +kernel
theorem dL_law_350 : decode cL_law 350 = .ok (.aload_n 0, 1) := by decide +kernel
theorem dL_law_351 : decode cL_law 351 = .ok (.iload_n 3, 1) := by decide +kernel
theorem dL_law_352 : decode cL_law 352 = .ok (.iconst 1, 1) := by decide +kernel
theorem dL_law_353 : decode cL_law 353 = .ok (.iadd, 1) := by decide +kernel
theorem dL_law_354 : decode cL_law 354 = .ok (.iaload, 1) := by decide +kernel
theorem dL_law_355 : decode cL_law 355 = .ok (.aload_n 0, 1) := by decide +kernel
theorem dL_law_356 : decode cL_law 356 = .ok (.iload_n 3, 1) := by decide +kernel
theorem dL_law_357 : decode cL_law 357 = .ok (.iconst 2, 1) := by decide +kernel
theorem dL_law_358 : decode cL_law 358 = .ok (.iadd, 1) := by decide +kernel
theorem dL_law_359 : decode cL_law 359 = .ok (.iaload, 1) := by decide +kernel
theorem dL_law_360 : decode cL_law 360 = .ok (.aload_n 0, 1) := by decide +kernel
theorem dL_law_361 : decode cL_law 361 = .ok (.iload_n 3, 1) := by decide +kernel
theorem dL_law_362 : decode cL_law 362 = .ok (.iconst 3, 1) := by decide +kernel
theorem dL_law_363 : decode cL_law 363 = .ok (.iadd, 1) := by decide +kernel
theorem dL_law_364 : decode cL_law 364 = .ok (.iaload, 1) := by decide +kernel
theorem dL_law_365 : decode cL_law 365 = .ok (.invokevirtual 44, 3) := by decide +kernel
theorem dL_law_368 : decode cL_law 368 = .ok (.if_icmp .eq 587, 3) := by decide +kernel
theorem dL_law_371 : decode cL_law 371 = .ok (.iconst 0, 1) := by decide +kernel
theorem dL_law_372 : decode cL_law 372 = .ok (.ireturn, 1) := by decide +kernel
theorem dL_law_373 : decode cL_law 373 = .ok (.aload_n 1, 1) := by decide +kernel
theorem dL_law_374 : decode cL_law 374 = .ok (.aload_n 0, 1) := by decide +kernel
theorem dL_law_375 : decode cL_law 375 = .ok (.iload_n 3, 1) := by decide +kernel
theorem dL_law_376 : decode cL_law 376 = .ok (.iconst 1, 1) := by decide +kernel
theorem dL_law_377 : decode cL_law 377 = .ok (.iadd, 1) := by decide +kernel
theorem dL_law_378 : decode cL_law 378 = .ok (.iaload, 1) := by decide +kernel
theorem dL_law_379 : decode cL_law 379 = .ok (.aload_n 0, 1) := by decide +kernel
theorem dL_law_380 : decode cL_law 380 = .ok (.iload_n 3, 1) := by decide +kernel
theorem dL_law_381 : decode cL_law 381 = .ok (.iconst 2, 1) := by decide +kernel
theorem dL_law_382 : decode cL_law 382 = .ok (.iadd, 1) := by decide +kernel
theorem dL_law_383 : decode cL_law 383 = .ok (.iaload, 1) := by decide +kernel
theorem dL_law_384 : decode cL_law 384 = .ok (.invokevirtual 45, 3) := by decide +kernel
theorem dL_law_387 : decode cL_law 387 = .ok (.aload_n 2, 1) := by decide +kernel
theorem dL_law_388 : decode cL_law 388 = .ok (.aload_n 0, 1) := by decide +kernel
theorem dL_law_389 : decode cL_law 389 = .ok (.iload_n 3, 1) := by decide +kernel
theorem dL_law_390 : decode cL_law 390 = .ok (.iconst 1, 1) := by decide +kernel
theorem dL_law_391 : decode cL_law 391 = .ok (.iadd, 1) := by decide +kernel
theorem dL_law_392 : decode cL_law 392 = .ok (.iaload, 1) := by decide +kernel
theorem dL_law_393 : decode cL_law 393 = .ok (.aload_n 0, 1) := by decide +kernel
theorem dL_law_394 : decode cL_law 394 = .ok (.iload_n 3, 1) := by decide +kernel
theorem dL_law_395 : decode cL_law 395 = .ok (.iconst 2, 1) := by decide +kernel
theorem dL_law_396 : decode cL_law 396 = .ok (.iadd, 1) := by decide +kernel
theorem dL_law_397 : decode cL_law 397 = .ok (.iaload, 1) := by decide +kernel
theorem dL_law_398 : decode cL_law 398 = .ok (.invokevirtual 48, 3) := by decide +kernel
theorem dL_law_401 : decode cL_law 401 = .ok (.if_icmp .eq 554, 3) := by decide +kernel
theorem dL_law_404 : decode cL_law 404 = .ok (.iconst 0, 1) := by decide +kernel
theorem dL_law_405 : decode cL_law 405 = .ok (.ireturn, 1) := by decide +kernel
theorem dL_law_406 : decode cL_law 406 = .ok (.aload_n 1, 1) := by decide +kernel
theorem dL_law_407 : decode cL_law 407 = .ok (.aload_n 0, 1) := by decide +kernel
theorem dL_law_408 : decode cL_law 408 = .ok (.iload_n 3, 1) := by decide +kernel
theorem dL_law_409 : decode cL_law 409 = .ok (.iconst 1, 1) := by decide +kernel
theorem dL_law_410 : decode cL_law 410 = .ok (.iadd, 1) := by decide +kernel
theorem dL_law_411 : decode cL_law 411 = .ok (.iaload, 1) := by decide +kernel
theorem dL_law_412 : decode cL_law 412 = .ok (.aload_n 0, 1) := by decide +kernel
theorem dL_law_413 : decode cL_law 413 = .ok (.iload_n 3, 1) := by decide +kernel
theorem dL_law_414 : decode cL_law 414 = .ok (.iconst 2, 1) := by decide +kernel
theorem dL_law_415 : decode cL_law 415 = .ok (.iadd, 1) := by decide +kernel
theorem dL_law_416 : decode cL_law 416 = .ok (.iaload, 1) := by decide +kernel
theorem dL_law_417 : decode cL_law 417 = .ok (.invokevirtual 49, 3) := by decide +kernel
theorem dL_law_420 : decode cL_law 420 = .ok (.aload_n 2, 1) := by decide +kernel
theorem dL_law_421 : decode cL_law 421 = .ok (.aload_n 0, 1) := by decide +kernel
theorem dL_law_422 : decode cL_law 422 = .ok (.iload_n 3, 1) := by decide +kernel
theorem dL_law_423 : decode cL_law 423 = .ok (.iconst 1, 1) := by decide +kernel
theorem dL_law_424 : decode cL_law 424 = .ok (.iadd, 1) := by decide +kernel
theorem dL_law_425 : decode cL_law 425 = .ok (.iaload, 1) := by decide +kernel
theorem dL_law_426 : decode cL_law 426 = .ok (.aload_n 0, 1) := by decide +kernel
theorem dL_law_427 : decode cL_law 427 = .ok (.iload_n 3, 1) := by decide +kernel
theorem dL_law_428 : decode cL_law 428 = .ok (.iconst 2, 1) := by decide +kernel
theorem dL_law_429 : decode cL_law 429 = .ok (.iadd, 1) := by decide +kernel
theorem dL_law_430 : decode cL_law 430 = .ok (.iaload, 1) := by decide +kernel
theorem dL_law_431 : decode cL_law 431 = .ok (.invokevirtual 52, 3) := by decide +kernel
theorem dL_law_434 : decode cL_law 434 = .ok (.if_icmp .eq 521, 3) := by decide +kernel
theorem dL_law_437 : decode cL_law 437 = .ok (.iconst 0, 1) := by decide +kernel
theorem dL_law_438 : decode cL_law 438 = .ok (.ireturn, 1) := by decide +kernel
theorem dL_law_439 : decode cL_law 439 = .ok (.aload_n 1, 1) := by decide +kernel
theorem dL_law_440 : decode cL_law 440 = .ok (.aload_n 0, 1) := by decide +kernel
theorem dL_law_441 : decode cL_law 441 = .ok (.iload_n 3, 1) := by decide +kernel
theorem dL_law_442 : decode cL_law 442 = .ok (.iconst 1, 1) := by decide +kernel
theorem dL_law_443 : decode cL_law 443 = .ok (.iadd, 1) := by decide +kernel
theorem dL_law_444 : decode cL_law 444 = .ok (.iaload, 1) := by decide +kernel
theorem dL_law_445 : decode cL_law 445 = .ok (.aload_n 0, 1) := by decide +kernel
theorem dL_law_446 : decode cL_law 446 = .ok (.iload_n 3, 1) := by decide +kernel
theorem dL_law_447 : decode cL_law 447 = .ok (.iconst 2, 1) := by decide +kernel
theorem dL_law_448 : decode cL_law 448 = .ok (.iadd, 1) := by decide +kernel
theorem dL_law_449 : decode cL_law 449 = .ok (.iaload, 1) := by decide +kernel
theorem dL_law_450 : decode cL_law 450 = .ok (.invokevirtual 53, 3) := by decide +kernel
theorem dL_law_453 : decode cL_law 453 = .ok (.aload_n 2, 1) := by decide +kernel
theorem dL_law_454 : decode cL_law 454 = .ok (.aload_n 0, 1) := by decide +kernel
theorem dL_law_455 : decode cL_law 455 = .ok (.iload_n 3, 1) := by decide +kernel
theorem dL_law_456 : decode cL_law 456 = .ok (.iconst 1, 1) := by decide +kernel
theorem dL_law_457 : decode cL_law 457 = .ok (.iadd, 1) := by decide +kernel
theorem dL_law_458 : decode cL_law 458 = .ok (.iaload, 1) := by decide +kernel
theorem dL_law_459 : decode cL_law 459 = .ok (.aload_n 0, 1) := by decide +kernel
theorem dL_law_460 : decode cL_law 460 = .ok (.iload_n 3, 1) := by decide +kernel
theorem dL_law_461 : decode cL_law 461 = .ok (.iconst 2, 1) := by decide +kernel
theorem dL_law_462 : decode cL_law 462 = .ok (.iadd, 1) := by decide +kernel
theorem dL_law_463 : decode cL_law 463 = .ok (.iaload, 1) := by decide +kernel
theorem dL_law_464 : decode cL_law 464 = .ok (.invokevirtual 56, 3) := by decide +kernel
theorem dL_law_467 : decode cL_law 467 = .ok (.if_icmp .eq 488, 3) := by decide +kernel
theorem dL_law_470 : decode cL_law 470 = .ok (.iconst 0, 1) := by decide +kernel
theorem dL_law_471 : decode cL_law 471 = .ok (.ireturn, 1) := by decide +kernel
theorem dL_law_472 : decode cL_law 472 = .ok (.aload_n 1, 1) := by decide +kernel
theorem dL_law_473 : decode cL_law 473 = .ok (.aload_n 0, 1) := by decide +kernel
theorem dL_law_474 : decode cL_law 474 = .ok (.iload_n 3, 1) := by decide +kernel
theorem dL_law_475 : decode cL_law 475 = .ok (.iconst 1, 1) := by decide +kernel
theorem dL_law_476 : decode cL_law 476 = .ok (.iadd, 1) := by decide +kernel
theorem dL_law_477 : decode cL_law 477 = .ok (.iaload, 1) := by decide +kernel
theorem dL_law_478 : decode cL_law 478 = .ok (.aload_n 0, 1) := by decide +kernel
theorem dL_law_479 : decode cL_law 479 = .ok (.iload_n 3, 1) := by decide +kernel
theorem dL_law_480 : decode cL_law 480 = .ok (.iconst 2, 1) := by decide +kernel
theorem dL_law_481 : decode cL_law 481 = .ok (.iadd, 1) := by decide +kernel
theorem dL_law_482 : decode cL_law 482 = .ok (.iaload, 1) := by decide +kernel
theorem dL_law_483 : decode cL_law 483 = .ok (.aload_n 0, 1) := by decide +kernel
theorem dL_law_484 : decode cL_law 484 = .ok (.iload_n 3, 1) := by decide +kernel
theorem dL_law_485 : decode cL_law 485 = .ok (.iconst 3, 1) := by decide +kernel
theorem dL_law_486 : decode cL_law 486 = .ok (.iadd, 1) := by decide +kernel
theorem dL_law_487 : decode cL_law 487 = .ok (.iaload, 1) := by decide +kernel
theorem dL_law_488 : decode cL_law 488 = .ok (.invokevirtual 57, 3) := by decide +kernel
theorem dL_law_491 : decode cL_law 491 = .ok (.aload_n 2, 1) := by decide +kernel
theorem dL_law_492 : decode cL_law 492 = .ok (.aload_n 0, 1) := by decide +kernel
theorem dL_law_493 : decode cL_law 493 = .ok (.iload_n 3, 1) := by decide +kernel
theorem dL_law_494 : decode cL_law 494 = .ok (.iconst 1, 1) := by decide +kernel
theorem dL_law_495 : decode cL_law 495 = .ok (.iadd, 1) := by decide +kernel
theorem dL_law_496 : decode cL_law 496 = .ok (.iaload, 1) := by decide +kernel
theorem dL_law_497 : decode cL_law 497 = .ok (.aload_n 0, 1) := by decide +kernel
theorem dL_law_498 : decode cL_law 498 = .ok (.iload_n 3, 1) := by decide +kernel
theorem dL_law_499 : decode cL_law 499 = .ok (.iconst 2, 1) := by decide +kernel
theorem dL_law_500 : decode cL_law 500 = .ok (.iadd, 1) := by decide +kernel
theorem dL_law_501 : decode cL_law 501 = .ok (.iaload, 1) := by decide +kernel
theorem dL_law_502 : decode cL_law 502 = .ok (.aload_n 0, 1) := by decide +kernel
theorem dL_law_503 : decode cL_law 503 = .ok (.iload_n 3, 1) := by decide +kernel
theorem dL_law_504 : decode cL_law 504 = .ok (.iconst 3, 1) := by decide +kernel
theorem dL_law_505 : decode cL_law 505 = .ok (.iadd, 1) := by decide +kernel
theorem dL_law_506 : decode cL_law 506 = .ok (.iaload, 1) := by decide +kernel
theorem dL_law_507 : decode cL_law 507 = .ok (.invokevirtual 60, 3) := by decide +kernel
theorem dL_law_510 : decode cL_law 510 = .ok (.if_icmp .eq 445, 3) := by decide +kernel
theorem dL_law_513 : decode cL_law 513 = .ok (.iconst 0, 1) := by decide +kernel
theorem dL_law_514 : decode cL_law 514 = .ok (.ireturn, 1) := by decide +kernel
theorem dL_law_515 : decode cL_law 515 = .ok (.aload_n 1, 1) := by decide +kernel
theorem dL_law_516 : decode cL_law 516 = .ok (.aload_n 0, 1) := by decide +kernel
theorem dL_law_517 : decode cL_law 517 = .ok (.iload_n 3, 1) := by decide +kernel
theorem dL_law_518 : decode cL_law 518 = .ok (.iconst 1, 1) := by decide +kernel
theorem dL_law_519 : decode cL_law 519 = .ok (.iadd, 1) := by decide +kernel
theorem dL_law_520 : decode cL_law 520 = .ok (.iaload, 1) := by decide +kernel
theorem dL_law_521 : decode cL_law 521 = .ok (.aload_n 0, 1) := by decide +kernel
theorem dL_law_522 : decode cL_law 522 = .ok (.iload_n 3, 1) := by decide +kernel
theorem dL_law_523 : decode cL_law 523 = .ok (.iconst 2, 1) := by decide +kernel
theorem dL_law_524 : decode cL_law 524 = .ok (.iadd, 1) := by decide +kernel
theorem dL_law_525 : decode cL_law 525 = .ok (.iaload, 1) := by decide +kernel
theorem dL_law_526 : decode cL_law 526 = .ok (.invokevirtual 61, 3) := by decide +kernel
theorem dL_law_529 : decode cL_law 529 = .ok (.aload_n 2, 1) := by decide +kernel
theorem dL_law_530 : decode cL_law 530 = .ok (.aload_n 0, 1) := by decide +kernel
theorem dL_law_531 : decode cL_law 531 = .ok (.iload_n 3, 1) := by decide +kernel
theorem dL_law_532 : decode cL_law 532 = .ok (.iconst 1, 1) := by decide +kernel
theorem dL_law_533 : decode cL_law 533 = .ok (.iadd, 1) := by decide +kernel
theorem dL_law_534 : decode cL_law 534 = .ok (.iaload, 1) := by decide +kernel
theorem dL_law_535 : decode cL_law 535 = .ok (.aload_n 0, 1) := by decide +kernel
theorem dL_law_536 : decode cL_law 536 = .ok (.iload_n 3, 1) := by decide +kernel
theorem dL_law_537 : decode cL_law 537 = .ok (.iconst 2, 1) := by decide +kernel
theorem dL_law_538 : decode cL_law 538 = .ok (.iadd, 1) := by decide +kernel
theorem dL_law_539 : decode cL_law 539 = .ok (.iaload, 1) := by decide +kernel
theorem dL_law_540 : decode cL_law 540 = .ok (.invokevirtual 64, 3) := by decide +kernel
theorem dL_law_543 : decode cL_law 543 = .ok (.if_icmp .eq 412, 3) := by decide +kernel
theorem dL_law_546 : decode cL_law 546 = .ok (.iconst 0, 1) := by decide +kernel
theorem dL_law_547 : decode cL_law 547 = .ok (.ireturn, 1) := by decide +kernel
theorem dL_law_548 : decode cL_law 548 = .ok (.aload_n 1, 1) := by decide +kernel
theorem dL_law_549 : decode cL_law 549 = .ok (.aload_n 0, 1) := by decide +kernel
theorem dL_law_550 : decode cL_law 550 = .ok (.iload_n 3, 1) := by decide +kernel
theorem dL_law_551 : decode cL_law 551 = .ok (.iconst 1, 1) := by decide +kernel
theorem dL_law_552 : decode cL_law 552 = .ok (.iadd, 1) := by decide +kernel
theorem dL_law_553 : decode cL_law 553 = .ok (.iaload, 1) := by decide +kernel
theorem dL_law_554 : decode cL_law 554 = .ok (.aload_n 0, 1) := by decide +kernel
theorem dL_law_555 : decode cL_law 555 = .ok (.iload_n 3, 1) := by decide +kernel
theorem dL_law_556 : decode cL_law 556 = .ok (.iconst 2, 1) := by decide +kernel
theorem dL_law_557 : decode cL_law 557 = .ok (.iadd, 1) := by decide +kernel
theorem dL_law_558 : decode cL_law 558 = .ok (.iaload, 1) := by decide +kernel
theorem dL_law_559 : decode cL_law 559 = .ok (.invokevirtual 65, 3) := by decide +kernel
theorem dL_law_562 : decode cL_law 562 = .ok (.aload_n 2, 1) := by decide +kernel
theorem dL_law_563 : decode cL_law 563 = .ok (.aload_n 0, 1) := by decide +kernel
theorem dL_law_564 : decode cL_law 564 = .ok (.iload_n 3, 1) := by decide +kernel
theorem dL_law_565 : decode cL_law 565 = .ok (.iconst 1, 1) := by decide +kernel
theorem dL_law_566 : decode cL_law 566 = .ok (.iadd, 1) := by decide +kernel
theorem dL_law_567 : decode cL_law 567 = .ok (.iaload, 1) := by decide +kernel
theorem dL_law_568 : decode cL_law 568 = .ok (.aload_n 0, 1) := by decide +kernel
theorem dL_law_569 : decode cL_law 569 = .ok (.iload_n 3, 1) := by decide +kernel
theorem dL_law_570 : decode cL_law 570 = .ok (.iconst 2, 1) := by decide +kernel
theorem dL_law_571 : decode cL_law 571 = .ok (.iadd, 1) := by decide +kernel
theorem dL_law_572 : decode cL_law 572 = .ok (.iaload, 1) := by decide +kernel
theorem dL_law_573 : decode cL_law 573 = .ok (.invokevirtual 68, 3) := by decide +kernel
theorem dL_law_576 : decode cL_law 576 = .ok (.if_icmp .eq 379, 3) := by decide +kernel
theorem dL_law_579 : decode cL_law 579 = .ok (.iconst 0, 1) := by decide +kernel
theorem dL_law_580 : decode cL_law 580 = .ok (.ireturn, 1) := by decide +kernel
theorem dL_law_581 : decode cL_law 581 = .ok (.aload_n 1, 1) := by decide +kernel
theorem dL_law_582 : decode cL_law 582 = .ok (.invokevirtual 69, 3) := by decide +kernel
theorem dL_law_585 : decode cL_law 585 = .ok (.aload_n 2, 1) := by decide +kernel
theorem dL_law_586 : decode cL_law 586 = .ok (.invokevirtual 72, 3) := by decide +kernel
theorem dL_law_589 : decode cL_law 589 = .ok (.if_icmp .eq 366, 3) := by decide +kernel
theorem dL_law_592 : decode cL_law 592 = .ok (.iconst 0, 1) := by decide +kernel
theorem dL_law_593 : decode cL_law 593 = .ok (.ireturn, 1) := by decide +kernel
theorem dL_law_594 : decode cL_law 594 = .ok (.aload_n 1, 1) := by decide +kernel
theorem dL_law_595 : decode cL_law 595 = .ok (.aload_n 0, 1) := by decide +kernel
theorem dL_law_596 : decode cL_law 596 = .ok (.iload_n 3, 1) := by decide +kernel
theorem dL_law_597 : decode cL_law 597 = .ok (.iconst 1, 1) := by decide +kernel
theorem dL_law_598 : decode cL_law 598 = .ok (.iadd, 1) := by decide +kernel
theorem dL_law_599 : decode cL_law 599 = .ok (.iaload, 1) := by decide +kernel
theorem dL_law_600 : decode cL_law 600 = .ok (.invokevirtual 73, 3) := by decide +kernel
theorem dL_law_603 : decode cL_law 603 = .ok (.aload_n 2, 1) := by decide +kernel
theorem dL_law_604 : decode cL_law 604 = .ok (.aload_n 0, 1) := by decide +kernel
theorem dL_law_605 : decode cL_law 605 = .ok (.iload_n 3, 1) := by decide +kernel
theorem dL_law_606 : decode cL_law 606 = .ok (.iconst 1, 1) := by decide +kernel
theorem dL_law_607 : decode cL_law 607 = .ok (.iadd, 1) := by decide +kernel
theorem dL_law_608 : decode cL_law 608 = .ok (.iaload, 1) := by decide +kernel
theorem dL_law_609 : decode cL_law 609 = .ok (.invokevirtual 76, 3) := by decide +kernel
theorem dL_law_612 : decode cL_law 612 = .ok (.if_icmp .eq 343, 3) := by decide +kernel
theorem dL_law_615 : decode cL_law 615 = .ok (.iconst 0, 1) := by decide +kernel
theorem dL_law_616 : decode cL_law 616 = .ok (.ireturn, 1) := by decide +kernel
theorem dL_law_617 : decode cL_law 617 = .ok (.aload_n 1, 1) := by decide +kernel
theorem dL_law_618 : decode cL_law 618 = .ok (.aload_n 0, 1) := by decide +kernel
theorem dL_law_619 : decode cL_law 619 = .ok (.iload_n 3, 1) := by decide +kernel
theorem dL_law_620 : decode cL_law 620 = .ok (.iconst 1, 1) := by decide +kernel
theorem dL_law_621 : decode cL_law 621 = .ok (.iadd, 1) := by decide +kernel
theorem dL_law_622 : decode cL_law 622 = .ok (.iaload, 1) := by decide +kernel
theorem dL_law_623 : decode cL_law 623 = .ok (.aload_n 0, 1) := by decide +kernel
theorem dL_law_624 : decode cL_law 624 = .ok (.iload_n 3, 1) := by decide +kernel
theorem dL_law_625 : decode cL_law 625 = .ok (.iconst 2, 1) := by decide +kernel
theorem dL_law_626 : decode cL_law 626 = .ok (.iadd, 1) := by decide +kernel
theorem dL_law_627 : decode cL_law 627 = .ok (.iaload, 1) := by decide +kernel
theorem dL_law_628 : decode cL_law 628 = .ok (.invokevirtual 77, 3) := by decide +kernel
theorem dL_law_631 : decode cL_law 631 = .ok (.aload_n 2, 1) := by decide +kernel
theorem dL_law_632 : decode cL_law 632 = .ok (.aload_n 0, 1) := by decide +kernel
theorem dL_law_633 : decode cL_law 633 = .ok (.iload_n 3, 1) := by decide +kernel
theorem dL_law_634 : decode cL_law 634 = .ok (.iconst 1, 1) := by decide +kernel
theorem dL_law_635 : decode cL_law 635 = .ok (.iadd, 1) := by decide +kernel
theorem dL_law_636 : decode cL_law 636 = .ok (.iaload, 1) := by decide +kernel
theorem dL_law_637 : decode cL_law 637 = .ok (.aload_n 0, 1) := by decide +kernel
theorem dL_law_638 : decode cL_law 638 = .ok (.iload_n 3, 1) := by decide +kernel
theorem dL_law_639 : decode cL_law 639 = .ok (.iconst 2, 1) := by decide +kernel
theorem dL_law_640 : decode cL_law 640 = .ok (.iadd, 1) := by decide +kernel
theorem dL_law_641 : decode cL_law 641 = .ok (.iaload, 1) := by decide +kernel
theorem dL_law_642 : decode cL_law 642 = .ok (.invokevirtual 80, 3) := by decide +kernel
theorem dL_law_645 : decode cL_law 645 = .ok (.if_icmp .eq 310, 3) := by decide +kernel
theorem dL_law_648 : decode cL_law 648 = .ok (.iconst 0, 1) := by decide +kernel
theorem dL_law_649 : decode cL_law 649 = .ok (.ireturn, 1) := by decide +kernel
theorem dL_law_650 : decode cL_law 650 = .ok (.aload_n 1, 1) := by decide +kernel
theorem dL_law_651 : decode cL_law 651 = .ok (.aload_n 0, 1) := by decide +kernel
theorem dL_law_652 : decode cL_law 652 = .ok (.iload_n 3, 1) := by decide +kernel
theorem dL_law_653 : decode cL_law 653 = .ok (.iconst 1, 1) := by decide +kernel
theorem dL_law_654 : decode cL_law 654 = .ok (.iadd, 1) := by decide +kernel
theorem dL_law_655 : decode cL_law 655 = .ok (.iaload, 1) := by decide +kernel
theorem dL_law_656 : decode cL_law 656 = .ok (.invokevirtual 81, 3) := by decide +kernel
theorem dL_law_659 : decode cL_law 659 = .ok (.aload_n 2, 1) := by decide +kernel
theorem dL_law_660 : decode cL_law 660 = .ok (.aload_n 0, 1) := by decide +kernel
theorem dL_law_661 : decode cL_law 661 = .ok (.iload_n 3, 1) := by decide +kernel
theorem dL_law_662 : decode cL_law 662 = .ok (.iconst 1, 1) := by decide +kernel
theorem dL_law_663 : decode cL_law 663 = .ok (.iadd, 1) := by decide +kernel
theorem dL_law_664 : decode cL_law 664 = .ok (.iaload, 1) := by decide +kernel
theorem dL_law_665 : decode cL_law 665 = .ok (.invokevirtual 84, 3) := by decide +kernel
theorem dL_law_668 : decode cL_law 668 = .ok (.if_icmp .eq 287, 3) := by decide +kernel
theorem dL_law_671 : decode cL_law 671 = .ok (.iconst 0, 1) := by decide +kernel
theorem dL_law_672 : decode cL_law 672 = .ok (.ireturn, 1) := by decide +kernel
theorem dL_law_673 : decode cL_law 673 = .ok (.aload_n 1, 1) := by decide +kernel
theorem dL_law_674 : decode cL_law 674 = .ok (.invokevirtual 85, 3) := by decide +kernel
theorem dL_law_677 : decode cL_law 677 = .ok (.aload_n 2, 1) := by decide +kernel
theorem dL_law_678 : decode cL_law 678 = .ok (.invokevirtual 88, 3) := by decide +kernel
theorem dL_law_681 : decode cL_law 681 = .ok (.if_icmp .eq 274, 3) := by decide +kernel
theorem dL_law_684 : decode cL_law 684 = .ok (.iconst 0, 1) := by decide +kernel
theorem dL_law_685 : decode cL_law 685 = .ok (.ireturn, 1) := by decide +kernel
theorem dL_law_686 : decode cL_law 686 = .ok (.aload_n 1, 1) := by decide +kernel
theorem dL_law_687 : decode cL_law 687 = .ok (.aload_n 0, 1) := by decide +kernel
theorem dL_law_688 : decode cL_law 688 = .ok (.iload_n 3, 1) := by decide +kernel
theorem dL_law_689 : decode cL_law 689 = .ok (.iconst 1, 1) := by decide +kernel
theorem dL_law_690 : decode cL_law 690 = .ok (.iadd, 1) := by decide +kernel
theorem dL_law_691 : decode cL_law 691 = .ok (.iaload, 1) := by decide +kernel
theorem dL_law_692 : decode cL_law 692 = .ok (.invokevirtual 89, 3) := by decide +kernel
theorem dL_law_695 : decode cL_law 695 = .ok (.aload_n 2, 1) := by decide +kernel
theorem dL_law_696 : decode cL_law 696 = .ok (.aload_n 0, 1) := by decide +kernel
theorem dL_law_697 : decode cL_law 697 = .ok (.iload_n 3, 1) := by decide +kernel
theorem dL_law_698 : decode cL_law 698 = .ok (.iconst 1, 1) := by decide +kernel
theorem dL_law_699 : decode cL_law 699 = .ok (.iadd, 1) := by decide +kernel
theorem dL_law_700 : decode cL_law 700 = .ok (.iaload, 1) := by decide +kernel
theorem dL_law_701 : decode cL_law 701 = .ok (.invokevirtual 92, 3) := by decide +kernel
theorem dL_law_704 : decode cL_law 704 = .ok (.if_icmp .eq 251, 3) := by decide +kernel
theorem dL_law_707 : decode cL_law 707 = .ok (.iconst 0, 1) := by decide +kernel
theorem dL_law_708 : decode cL_law 708 = .ok (.ireturn, 1) := by decide +kernel
theorem dL_law_709 : decode cL_law 709 = .ok (.aload_n 1, 1) := by decide +kernel
theorem dL_law_710 : decode cL_law 710 = .ok (.aload_n 0, 1) := by decide +kernel
theorem dL_law_711 : decode cL_law 711 = .ok (.iload_n 3, 1) := by decide +kernel
theorem dL_law_712 : decode cL_law 712 = .ok (.iconst 1, 1) := by decide +kernel
theorem dL_law_713 : decode cL_law 713 = .ok (.iadd, 1) := by decide +kernel
theorem dL_law_714 : decode cL_law 714 = .ok (.iaload, 1) := by decide +kernel
theorem dL_law_715 : decode cL_law 715 = .ok (.aload_n 0, 1) := by decide +kernel
theorem dL_law_716 : decode cL_law 716 = .ok (.iload_n 3, 1) := by decide +kernel
theorem dL_law_717 : decode cL_law 717 = .ok (.iconst 2, 1) := by decide +kernel
theorem dL_law_718 : decode cL_law 718 = .ok (.iadd, 1) := by decide +kernel
theorem dL_law_719 : decode cL_law 719 = .ok (.iaload, 1) := by decide +kernel
theorem dL_law_720 : decode cL_law 720 = .ok (.aload_n 0, 1) := by decide +kernel
theorem dL_law_721 : decode cL_law 721 = .ok (.iload_n 3, 1) := by decide +kernel
theorem dL_law_722 : decode cL_law 722 = .ok (.iconst 3, 1) := by decide +kernel
theorem dL_law_723 : decode cL_law 723 = .ok (.iadd, 1) := by decide +kernel
theorem dL_law_724 : decode cL_law 724 = .ok (.iaload, 1) := by decide +kernel
theorem dL_law_725 : decode cL_law 725 = .ok (.invokevirtual 93, 3) := by decide +kernel
theorem dL_law_728 : decode cL_law 728 = .ok (.aload_n 2, 1) := by decide +kernel
theorem dL_law_729 : decode cL_law 729 = .ok (.aload_n 0, 1) := by decide +kernel
theorem dL_law_730 : decode cL_law 730 = .ok (.iload_n 3, 1) := by decide +kernel
theorem dL_law_731 : decode cL_law 731 = .ok (.iconst 1, 1) := by decide +kernel
theorem dL_law_732 : decode cL_law 732 = .ok (.iadd, 1) := by decide +kernel
theorem dL_law_733 : decode cL_law 733 = .ok (.iaload, 1) := by decide +kernel
theorem dL_law_734 : decode cL_law 734 = .ok (.aload_n 0, 1) := by decide +kernel
theorem dL_law_735 : decode cL_law 735 = .ok (.iload_n 3, 1) := by decide +kernel
theorem dL_law_736 : decode cL_law 736 = .ok (.iconst 2, 1) := by decide +kernel
theorem dL_law_737 : decode cL_law 737 = .ok (.iadd, 1) := by decide +kernel
theorem dL_law_738 : decode cL_law 738 = .ok (.iaload, 1) := by decide +kernel
theorem dL_law_739 : decode cL_law 739 = .ok (.aload_n 0, 1) := by decide +kernel
theorem dL_law_740 : decode cL_law 740 = .ok (.iload_n 3, 1) := by decide +kernel
theorem dL_law_741 : decode cL_law 741 = .ok (.iconst 3, 1) := by decide +kernel
theorem dL_law_742 : decode cL_law 742 = .ok (.iadd, 1) := by decide +kernel
theorem dL_law_743 : decode cL_law 743 = .ok (.iaload, 1) := by decide +kernel
theorem dL_law_744 : decode cL_law 744 = .ok (.invokevirtual 96, 3) := by decide +kernel
theorem dL_law_747 : decode cL_law 747 = .ok (.if_icmp .eq 208, 3) := by decide +kernel
theorem dL_law_750 : decode cL_law 750 = .ok (.iconst 0, 1) := by decide +kernel
theorem dL_law_751 : decode cL_law 751 = .ok (.ireturn, 1) := by decide +kernel
theorem dL_law_752 : decode cL_law 752 = .ok (.aload_n 1, 1) := by decide +kernel
theorem dL_law_753 : decode cL_law 753 = .ok (.aload_n 0, 1) := by decide +kernel
theorem dL_law_754 : decode cL_law 754 = .ok (.iload_n 3, 1) := by decide +kernel
theorem dL_law_755 : decode cL_law 755 = .ok (.iconst 1, 1) := by decide +kernel
theorem dL_law_756 : decode cL_law 756 = .ok (.iadd, 1) := by decide +kernel
theorem dL_law_757 : decode cL_law 757 = .ok (.iaload, 1) := by decide +kernel
theorem dL_law_758 : decode cL_law 758 = .ok (.invokevirtual 97, 3) := by decide +kernel
theorem dL_law_761 : decode cL_law 761 = .ok (.aload_n 2, 1) := by decide +kernel
theorem dL_law_762 : decode cL_law 762 = .ok (.aload_n 0, 1) := by decide +kernel
theorem dL_law_763 : decode cL_law 763 = .ok (.iload_n 3, 1) := by decide +kernel
theorem dL_law_764 : decode cL_law 764 = .ok (.iconst 1, 1) := by decide +kernel
theorem dL_law_765 : decode cL_law 765 = .ok (.iadd, 1) := by decide +kernel
theorem dL_law_766 : decode cL_law 766 = .ok (.iaload, 1) := by decide +kernel
theorem dL_law_767 : decode cL_law 767 = .ok (.invokevirtual 100, 3) := by decide +kernel
theorem dL_law_770 : decode cL_law 770 = .ok (.if_icmp .eq 185, 3) := by decide +kernel
theorem dL_law_773 : decode cL_law 773 = .ok (.iconst 0, 1) := by decide +kernel
theorem dL_law_774 : decode cL_law 774 = .ok (.ireturn, 1) := by decide +kernel
theorem dL_law_775 : decode cL_law 775 = .ok (.aload_n 1, 1) := by decide +kernel
theorem dL_law_776 : decode cL_law 776 = .ok (.aload_n 0, 1) := by decide +kernel
theorem dL_law_777 : decode cL_law 777 = .ok (.iload_n 3, 1) := by decide +kernel
theorem dL_law_778 : decode cL_law 778 = .ok (.iconst 1, 1) := by decide +kernel
theorem dL_law_779 : decode cL_law 779 = .ok (.iadd, 1) := by decide +kernel
theorem dL_law_780 : decode cL_law 780 = .ok (.iaload, 1) := by decide +kernel
theorem dL_law_781 : decode cL_law 781 = .ok (.invokevirtual 101, 3) := by decide +kernel
theorem dL_law_784 : decode cL_law 784 = .ok (.aload_n 2, 1) := by decide +kernel
theorem dL_law_785 : decode cL_law 785 = .ok (.aload_n 0, 1) := by decide +kernel
theorem dL_law_786 : decode cL_law 786 = .ok (.iload_n 3, 1) := by decide +kernel
theorem dL_law_787 : decode cL_law 787 = .ok (.iconst 1, 1) := by decide +kernel
theorem dL_law_788 : decode cL_law 788 = .ok (.iadd, 1) := by decide +kernel
theorem dL_law_789 : decode cL_law 789 = .ok (.iaload, 1) := by decide +kernel
theorem dL_law_790 : decode cL_law 790 = .ok (.invokevirtual 104, 3) := by decide +kernel
theorem dL_law_793 : decode cL_law 793 = .ok (.if_icmp .eq 162, 3) := by decide +kernel
theorem dL_law_796 : decode cL_law 796 = .ok (.iconst 0, 1) := by decide +kernel
theorem dL_law_797 : decode cL_law 797 = .ok (.ireturn, 1) := by decide +kernel
theorem dL_law_798 : decode cL_law 798 = .ok (.aload_n 1, 1) := by decide +kernel
theorem dL_law_799 : decode cL_law 799 = .ok (.invokevirtual 105, 3) := by decide +kernel
theorem dL_law_802 : decode cL_law 802 = .ok (.aload_n 2, 1) := by decide +kernel
theorem dL_law_803 : decode cL_law 803 = .ok (.invokevirtual 108, 3) := by decide +kernel
theorem dL_law_806 : decode cL_law 806 = .ok (.if_icmp .eq 149, 3) := by decide +kernel
theorem dL_law_809 : decode cL_law 809 = .ok (.iconst 0, 1) := by decide +kernel
theorem dL_law_810 : decode cL_law 810 = .ok (.ireturn, 1) := by decide +kernel
theorem dL_law_811 : decode cL_law 811 = .ok (.aload_n 1, 1) := by decide +kernel
theorem dL_law_812 : decode cL_law 812 = .ok (.invokevirtual 109, 3) := by decide +kernel
theorem dL_law_815 : decode cL_law 815 = .ok (.aload_n 2, 1) := by decide +kernel
theorem dL_law_816 : decode cL_law 816 = .ok (.invokevirtual 112, 3) := by decide +kernel
theorem dL_law_819 : decode cL_law 819 = .ok (.if_icmp .eq 136, 3) := by decide +kernel
theorem dL_law_822 : decode cL_law 822 = .ok (.iconst 0, 1) := by decide +kernel
theorem dL_law_823 : decode cL_law 823 = .ok (.ireturn, 1) := by decide +kernel
theorem dL_law_824 : decode cL_law 824 = .ok (.aload_n 1, 1) := by decide +kernel
theorem dL_law_825 : decode cL_law 825 = .ok (.invokevirtual 113, 3) := by decide +kernel
theorem dL_law_828 : decode cL_law 828 = .ok (.aload_n 2, 1) := by decide +kernel
theorem dL_law_829 : decode cL_law 829 = .ok (.invokevirtual 116, 3) := by decide +kernel
theorem dL_law_832 : decode cL_law 832 = .ok (.if_icmp .eq 123, 3) := by decide +kernel
theorem dL_law_835 : decode cL_law 835 = .ok (.iconst 0, 1) := by decide +kernel
theorem dL_law_836 : decode cL_law 836 = .ok (.ireturn, 1) := by decide +kernel
theorem dL_law_837 : decode cL_law 837 = .ok (.aload_n 1, 1) := by decide +kernel
theorem dL_law_838 : decode cL_law 838 = .ok (.aload_n 0, 1) := by decide +kernel
theorem dL_law_839 : decode cL_law 839 = .ok (.iload_n 3, 1) := by decide +kernel
theorem dL_law_840 : decode cL_law 840 = .ok (.iconst 1, 1) := by decide +kernel
theorem dL_law_841 : decode cL_law 841 = .ok (.iadd, 1) := by decide +kernel
theorem dL_law_842 : decode cL_law 842 = .ok (.iaload, 1) := by decide +kernel
theorem dL_law_843 : decode cL_law 843 = .ok (.aload_n 0, 1) := by decide +kernel
theorem dL_law_844 : decode cL_law 844 = .ok (.iload_n 3, 1) := by decide +kernel
theorem dL_law_845 : decode cL_law 845 = .ok (.iconst 2, 1) := by decide +kernel
theorem dL_law_846 : decode cL_law 846 = .ok (.iadd, 1) := by decide +kernel
theorem dL_law_847 : decode cL_law 847 = .ok (.iaload, 1) := by decide +kernel
theorem dL_law_848 : decode cL_law 848 = .ok (.invokevirtual 117, 3) := by decide +kernel
theorem dL_law_851 : decode cL_law 851 = .ok (.aload_n 2, 1) := by decide +kernel
theorem dL_law_852 : decode cL_law 852 = .ok (.aload_n 0, 1) := by decide +kernel
theorem dL_law_853 : decode cL_law 853 = .ok (.iload_n 3, 1) := by decide +kernel
theorem dL_law_854 : decode cL_law 854 = .ok (.iconst 1, 1) := by decide +kernel
theorem dL_law_855 : decode cL_law 855 = .ok (.iadd, 1) := by decide +kernel
theorem dL_law_856 : decode cL_law 856 = .ok (.iaload, 1) := by decide +kernel
theorem dL_law_857 : decode cL_law 857 = .ok (.aload_n 0, 1) := by decide +kernel
theorem dL_law_858 : decode cL_law 858 = .ok (.iload_n 3, 1) := by decide +kernel
theorem dL_law_859 : decode cL_law 859 = .ok (.iconst 2, 1) := by decide +kernel
theorem dL_law_860 : decode cL_law 860 = .ok (.iadd, 1) := by decide +kernel
theorem dL_law_861 : decode cL_law 861 = .ok (.iaload, 1) := by decide +kernel
theorem dL_law_862 : decode cL_law 862 = .ok (.invokevirtual 120, 3) := by decide +kernel
theorem dL_law_865 : decode cL_law 865 = .ok (.if_icmp .eq 90, 3) := by decide +kernel
theorem dL_law_868 : decode cL_law 868 = .ok (.iconst 0, 1) := by decide +kernel
theorem dL_law_869 : decode cL_law 869 = .ok (.ireturn, 1) := by decide +kernel
theorem dL_law_870 : decode cL_law 870 = .ok (.aload_n 1, 1) := by decide +kernel
theorem dL_law_871 : decode cL_law 871 = .ok (.aload_n 0, 1) := by decide +kernel
theorem dL_law_872 : decode cL_law 872 = .ok (.iload_n 3, 1) := by decide +kernel
theorem dL_law_873 : decode cL_law 873 = .ok (.iconst 1, 1) := by decide +kernel
theorem dL_law_874 : decode cL_law 874 = .ok (.iadd, 1) := by decide +kernel
theorem dL_law_875 : decode cL_law 875 = .ok (.iaload, 1) := by decide +kernel
theorem dL_law_876 : decode cL_law 876 = .ok (.invokevirtual 121, 3) := by decide +kernel
theorem dL_law_879 : decode cL_law 879 = .ok (.aload_n 2, 1) := by decide +kernel
theorem dL_law_880 : decode cL_law 880 = .ok (.aload_n 0, 1) := by decide +kernel
theorem dL_law_881 : decode cL_law 881 = .ok (.iload_n 3, 1) := by decide +kernel
theorem dL_law_882 : decode cL_law 882 = .ok (.iconst 1, 1) := by decide +kernel
theorem dL_law_883 : decode cL_law 883 = .ok (.iadd, 1) := by decide +kernel
theorem dL_law_884 : decode cL_law 884 = .ok (.iaload, 1) := by decide +kernel
theorem dL_law_885 : decode cL_law 885 = .ok (.invokevirtual 124, 3) := by decide +kernel
theorem dL_law_888 : decode cL_law 888 = .ok (.if_icmp .eq 67, 3) := by decide +kernel
theorem dL_law_891 : decode cL_law 891 = .ok (.iconst 0, 1) := by decide +kernel
theorem dL_law_892 : decode cL_law 892 = .ok (.ireturn, 1) := by decide +kernel
theorem dL_law_893 : decode cL_law 893 = .ok (.aload_n 1, 1) := by decide +kernel
theorem dL_law_894 : decode cL_law 894 = .ok (.invokevirtual 125, 3) := by decide +kernel
theorem dL_law_897 : decode cL_law 897 = .ok (.aload_n 2, 1) := by decide +kernel
theorem dL_law_898 : decode cL_law 898 = .ok (.invokevirtual 128, 3) := by decide +kernel
theorem dL_law_901 : decode cL_law 901 = .ok (.if_icmp .eq 54, 3) := by decide +kernel
theorem dL_law_904 : decode cL_law 904 = .ok (.iconst 0, 1) := by decide +kernel
theorem dL_law_905 : decode cL_law 905 = .ok (.ireturn, 1) := by decide +kernel
theorem dL_law_906 : decode cL_law 906 = .ok (.aload_n 1, 1) := by decide +kernel
theorem dL_law_907 : decode cL_law 907 = .ok (.invokevirtual 129, 3) := by decide +kernel
theorem dL_law_910 : decode cL_law 910 = .ok (.aload_n 2, 1) := by decide +kernel
theorem dL_law_911 : decode cL_law 911 = .ok (.invokevirtual 132, 3) := by decide +kernel
theorem dL_law_914 : decode cL_law 914 = .ok (.if_icmp .eq 41, 3) := by decide +kernel
theorem dL_law_917 : decode cL_law 917 = .ok (.iconst 0, 1) := by decide +kernel
theorem dL_law_918 : decode cL_law 918 = .ok (.ireturn, 1) := by decide +kernel
theorem dL_law_919 : decode cL_law 919 = .ok (.aload_n 1, 1) := by decide +kernel
theorem dL_law_920 : decode cL_law 920 = .ok (.invokevirtual 133, 3) := by decide +kernel
theorem dL_law_923 : decode cL_law 923 = .ok (.aload_n 2, 1) := by decide +kernel
theorem dL_law_924 : decode cL_law 924 = .ok (.invokevirtual 136, 3) := by decide +kernel
theorem dL_law_927 : decode cL_law 927 = .ok (.if_icmp .eq 28, 3) := by decide +kernel
theorem dL_law_930 : decode cL_law 930 = .ok (.iconst 0, 1) := by decide +kernel
theorem dL_law_931 : decode cL_law 931 = .ok (.ireturn, 1) := by decide +kernel
theorem dL_law_932 : decode cL_law 932 = .ok (.aload_n 1, 1) := by decide +kernel
theorem dL_law_933 : decode cL_law 933 = .ok (.aload_n 0, 1) := by decide +kernel
theorem dL_law_934 : decode cL_law 934 = .ok (.iload_n 3, 1) := by decide +kernel
theorem dL_law_935 : decode cL_law 935 = .ok (.iconst 1, 1) := by decide +kernel
theorem dL_law_936 : decode cL_law 936 = .ok (.iadd, 1) := by decide +kernel
theorem dL_law_937 : decode cL_law 937 = .ok (.iaload, 1) := by decide +kernel
theorem dL_law_938 : decode cL_law 938 = .ok (.invokevirtual 137, 3) := by decide +kernel
theorem dL_law_941 : decode cL_law 941 = .ok (.aload_n 2, 1) := by decide +kernel
theorem dL_law_942 : decode cL_law 942 = .ok (.aload_n 0, 1) := by decide +kernel
theorem dL_law_943 : decode cL_law 943 = .ok (.iload_n 3, 1) := by decide +kernel
theorem dL_law_944 : decode cL_law 944 = .ok (.iconst 1, 1) := by decide +kernel
theorem dL_law_945 : decode cL_law 945 = .ok (.iadd, 1) := by decide +kernel
theorem dL_law_946 : decode cL_law 946 = .ok (.iaload, 1) := by decide +kernel
theorem dL_law_947 : decode cL_law 947 = .ok (.invokevirtual 140, 3) := by decide +kernel
theorem dL_law_950 : decode cL_law 950 = .ok (.if_icmp .eq 5, 3) := by decide +kernel
theorem dL_law_953 : decode cL_law 953 = .ok (.iconst 0, 1) := by decide +kernel
theorem dL_law_954 : decode cL_law 954 = .ok (.ireturn, 1) := by decide +kernel
theorem dL_law_955 : decode cL_law 955 = .ok (.iinc 3 4, 3) := by decide +kernel
theorem dL_law_958 : decode cL_law 958 = .ok (.goto (-940), 3) := by decide +kernel
theorem dL_law_961 : decode cL_law 961 = .ok (.iconst 1, 1) := by decide +kernel
theorem dL_law_962 : decode cL_law 962 = .ok (.ireturn, 1) := by decide +kernel
end
section
theorem dX8_init_0 : decode cX8_init 0 = .ok (.aload_n 0, 1) := by decide +kernel
theorem dX8_init_1 : decode cX8_init 1 = .ok (.invokespecial 1, 3) := by decide +kernel
theorem dX8_init_4 : decode cX8_init 4 = .ok (.aload_n 0, 1) := by decide +kernel
theorem dX8_init_5 : decode cX8_init 5 = .ok (.bipush 64, 2) := by decide +kernel
theorem dX8_init_7 : decode cX8_init 7 = .ok (.newarray .int, 2) := by decide +kernel
theorem dX8_init_9 : decode cX8_init 9 = .ok (.putfield 9, 3) := by decide +kernel
theorem dX8_init_12 : decode cX8_init 12 = .ok (.aload_n 0, 1) := by decide +kernel
theorem dX8_init_13 : decode cX8_init 13 = .ok (.bipush 6, 2) := by decide +kernel
theorem dX8_init_15 : decode cX8_init 15 = .ok (.newarray .int, 2) := by decide +kernel
theorem dX8_init_17 : decode cX8_init 17 = .ok (.putfield 13, 3) := by decide +kernel
theorem dX8_init_20 : decode cX8_init 20 = .ok (.aload_n 0, 1) := by decide +kernel
theorem dX8_init_21 : decode cX8_init 21 = .ok (.bipush 8, 2) := by decide +kernel
theorem dX8_init_23 : decode cX8_init 23 = .ok (.newarray .int, 2) := by decide +kernel
theorem dX8_init_25 : decode cX8_init 25 = .ok (.putfield 16, 3) := by decide +kernel
theorem dX8_init_28 : decode cX8_init 28 = .ok (.aload_n 0, 1) := by decide +kernel
theorem dX8_init_29 : decode cX8_init 29 = .ok (.iconst 4, 1) := by decide +kernel
theorem dX8_init_30 : decode cX8_init 30 = .ok (.putfield 19, 3) := by decide +kernel
theorem dX8_init_33 : decode cX8_init 33 = .ok (.aload_n 0, 1) := by decide +kernel
theorem dX8_init_34 : decode cX8_init 34 = .ok (.bipush 7, 2) := by decide +kernel
theorem dX8_init_36 : decode cX8_init 36 = .ok (.bipush 7, 2) := by decide +kernel
theorem dX8_init_38 : decode cX8_init 38 = .ok (.multianewarray 23 2, 4) := by decide +kernel
theorem dX8_init_42 : decode cX8_init 42 = .ok (.putfield 25, 3) := by decide +kernel
theorem dX8_init_45 : decode cX8_init 45 = .ok (.aload_n 0, 1) := by decide +kernel
theorem dX8_init_46 : decode cX8_init 46 = .ok (.bipush 6, 2) := by decide +kernel
theorem dX8_init_48 : decode cX8_init 48 = .ok (.bipush 7, 2) := by decide +kernel
theorem dX8_init_50 : decode cX8_init 50 = .ok (.multianewarray 23 2, 4) := by decide +kernel
theorem dX8_init_54 : decode cX8_init 54 = .ok (.putfield 28, 3) := by decide +kernel
theorem dX8_init_57 : decode cX8_init 57 = .ok (.aload_n 0, 1) := by decide +kernel
theorem dX8_init_58 : decode cX8_init 58 = .ok (.bipush 6, 2) := by decide +kernel
theorem dX8_init_60 : decode cX8_init 60 = .ok (.bipush 10, 2) := by decide +kernel
theorem dX8_init_62 : decode cX8_init 62 = .ok (.multianewarray 23 2, 4) := by decide +kernel
theorem dX8_init_66 : decode cX8_init 66 = .ok (.putfield 31, 3) := by decide +kernel
theorem dX8_init_69 : decode cX8_init 69 = .ok (.aload_n 0, 1) := by decide +kernel
theorem dX8_init_70 : decode cX8_init 70 = .ok (.bipush 7, 2) := by decide +kernel
theorem dX8_init_72 : decode cX8_init 72 = .ok (.newarray .int, 2) := by decide +kernel
theorem dX8_init_74 : decode cX8_init 74 = .ok (.putfield 34, 3) := by decide +kernel
theorem dX8_init_77 : decode cX8_init 77 = .ok (.aload_n 0, 1) := by decide +kernel
theorem dX8_init_78 : decode cX8_init 78 = .ok (.bipush 7, 2) := by decide +kernel
theorem dX8_init_80 : decode cX8_init 80 = .ok (.bipush 7, 2) := by decide +kernel
theorem dX8_init_82 : decode cX8_init 82 = .ok (.multianewarray 23 2, 4) := by decide +kernel
theorem dX8_init_86 : decode cX8_init 86 = .ok (.putfield 37, 3) := by decide +kernel
theorem dX8_init_89 : decode cX8_init 89 = .ok (.aload_n 0, 1) := by decide +kernel
theorem dX8_init_90 : decode cX8_init 90 = .ok (.bipush 6, 2) := by decide +kernel
theorem dX8_init_92 : decode cX8_init 92 = .ok (.bipush 7, 2) := by decide +kernel
theorem dX8_init_94 : decode cX8_init 94 = .ok (.multianewarray 23 2, 4) := by decide +kernel
theorem dX8_init_98 : decode cX8_init 98 = .ok (.putfield 40, 3) := by decide +kernel
theorem dX8_init_101 : decode cX8_init 101 = .ok (.aload_n 0, 1) := by decide +kernel
theorem dX8_init_102 : decode cX8_init 102 = .ok (.bipush 6, 2) := by decide +kernel
theorem dX8_init_104 : decode cX8_init 104 = .ok (.bipush 7, 2) := by decide +kernel
theorem dX8_init_106 : decode cX8_init 106 = .ok (.multianewarray 23 2, 4) := by decide +kernel
theorem dX8_init_110 : decode cX8_init 110 = .ok (.putfield 43, 3) := by decide +kernel
theorem dX8_init_113 : decode cX8_init 113 = .ok (.aload_n 0, 1) := by decide +kernel
theorem dX8_init_114 : decode cX8_init 114 = .ok (.bipush 6, 2) := by decide +kernel
theorem dX8_init_116 : decode cX8_init 116 = .ok (.newarray .int, 2) := by decide +kernel
theorem dX8_init_118 : decode cX8_init 118 = .ok (.putfield 46, 3) := by decide +kernel
theorem dX8_init_121 : decode cX8_init 121 = .ok (.aload_n 0, 1) := by decide +kernel
theorem dX8_init_122 : decode cX8_init 122 = .ok (.bipush 7, 2) := by decide +kernel
theorem dX8_init_124 : decode cX8_init 124 = .ok (.newarray .int, 2) := by decide +kernel
theorem dX8_init_126 : decode cX8_init 126 = .ok (.putfield 49, 3) := by decide +kernel
theorem dX8_init_129 : decode cX8_init 129 = .ok (.aload_n 0, 1) := by decide +kernel
theorem dX8_init_130 : decode cX8_init 130 = .ok (.bipush 7, 2) := by decide +kernel
theorem dX8_init_132 : decode cX8_init 132 = .ok (.newarray .int, 2) := by decide +kernel
theorem dX8_init_134 : decode cX8_init 134 = .ok (.putfield 52, 3) := by decide +kernel
theorem dX8_init_137 : decode cX8_init 137 = .ok (.aload_n 0, 1) := by decide +kernel
theorem dX8_init_138 : decode cX8_init 138 = .ok (.bipush 6, 2) := by decide +kernel
theorem dX8_init_140 : decode cX8_init 140 = .ok (.newarray .int, 2) := by decide +kernel
theorem dX8_init_142 : decode cX8_init 142 = .ok (.putfield 55, 3) := by decide +kernel
theorem dX8_init_145 : decode cX8_init 145 = .ok (.aload_n 0, 1) := by decide +kernel
theorem dX8_init_146 : decode cX8_init 146 = .ok (.bipush 6, 2) := by decide +kernel
theorem dX8_init_148 : decode cX8_init 148 = .ok (.newarray .int, 2) := by decide +kernel
theorem dX8_init_150 : decode cX8_init 150 = .ok (.putfield 58, 3) := by decide +kernel
theorem dX8_init_153 : decode cX8_init 153 = .ok (.return_, 1) := by decide +kernel
theorem dX8_refuse_0 : decode cX8_refuse 0 = .ok (.aload_n 0, 1) := by decide +kernel
theorem dX8_refuse_1 : decode cX8_refuse 1 = .ok (.getfield 16, 3) := by decide +kernel
theorem dX8_refuse_4 : decode cX8_refuse 4 = .ok (.iload_n 1, 1) := by decide +kernel
theorem dX8_refuse_5 : decode cX8_refuse 5 = .ok (.ineg, 1) := by decide +kernel
theorem dX8_refuse_6 : decode cX8_refuse 6 = .ok (.dup2, 1) := by decide +kernel
theorem dX8_refuse_7 : decode cX8_refuse 7 = .ok (.iaload, 1) := by decide +kernel
theorem dX8_refuse_8 : decode cX8_refuse 8 = .ok (.iconst 1, 1) := by decide +kernel
theorem dX8_refuse_9 : decode cX8_refuse 9 = .ok (.iadd, 1) := by decide +kernel
theorem dX8_refuse_10 : decode cX8_refuse 10 = .ok (.iastore, 1) := by decide +kernel
theorem dX8_refuse_11 : decode cX8_refuse 11 = .ok (.iload_n 1, 1) := by decide +kernel
theorem dX8_refuse_12 : decode cX8_refuse 12 = .ok (.ireturn, 1) := by decide +kernel
theorem dX8_in_0 : decode cX8_in 0 = .ok (.iload_n 0, 1) := by decide +kernel
theorem dX8_in_1 : decode cX8_in 1 = .ok (.iload_n 1, 1) := by decide +kernel
theorem dX8_in_2 : decode cX8_in 2 = .ok (.if_icmp .lt 12, 3) := by decide +kernel
theorem dX8_in_5 : decode cX8_in 5 = .ok (.iload_n 0, 1) := by decide +kernel
theorem dX8_in_6 : decode cX8_in 6 = .ok (.iload_n 2, 1) := by decide +kernel
theorem dX8_in_7 : decode cX8_in 7 = .ok (.if_icmp .gt 7, 3) := by decide +kernel
theorem dX8_in_10 : decode cX8_in 10 = .ok (.iconst 1, 1) := by decide +kernel
theorem dX8_in_11 : decode cX8_in 11 = .ok (.goto 4, 3) := by decide +kernel
theorem dX8_in_14 : decode cX8_in 14 = .ok (.iconst 0, 1) := by decide +kernel
theorem dX8_in_15 : decode cX8_in 15 = .ok (.ireturn, 1) := by decide +kernel
theorem dX8_isPlace_0 : decode cX8_isPlace 0 = .ok (.iload_n 1, 1) := by decide +kernel
theorem dX8_isPlace_1 : decode cX8_isPlace 1 = .ok (.iconst 0, 1) := by decide +kernel
theorem dX8_isPlace_2 : decode cX8_isPlace 2 = .ok (.aload_n 0, 1) := by decide +kernel
theorem dX8_isPlace_3 : decode cX8_isPlace 3 = .ok (.getfield 19, 3) := by decide +kernel
theorem dX8_isPlace_6 : decode cX8_isPlace 6 = .ok (.iconst 1, 1) := by decide +kernel
theorem dX8_isPlace_7 : decode cX8_isPlace 7 = .ok (.isub, 1) := by decide +kernel
theorem dX8_isPlace_8 : decode cX8_isPlace 8 = .ok (.invokestatic 61, 3) := by decide +kernel
theorem dX8_isPlace_11 : decode cX8_isPlace 11 = .ok (.ireturn, 1) := by decide +kernel
theorem dX8_isPerson_0 : decode cX8_isPerson 0 = .ok (.iload_n 1, 1) := by decide +kernel
theorem dX8_isPerson_1 : decode cX8_isPerson 1 = .ok (.iconst 0, 1) := by decide +kernel
theorem dX8_isPerson_2 : decode cX8_isPerson 2 = .ok (.aload_n 0, 1) := by decide +kernel
theorem dX8_isPerson_3 : decode cX8_isPerson 3 = .ok (.getfield 65, 3) := by decide +kernel
theorem dX8_isPerson_6 : decode cX8_isPerson 6 = .ok (.iconst 1, 1) := by decide +kernel
theorem dX8_isPerson_7 : decode cX8_isPerson 7 = .ok (.isub, 1) := by decide +kernel
theorem dX8_isPerson_8 : decode cX8_isPerson 8 = .ok (.invokestatic 61, 3) := by decide +kernel
theorem dX8_isPerson_11 : decode cX8_isPerson 11 = .ok (.ireturn, 1) := by decide +kernel
theorem dX8_isThing_0 : decode cX8_isThing 0 = .ok (.iload_n 1, 1) := by decide +kernel
theorem dX8_isThing_1 : decode cX8_isThing 1 = .ok (.iconst 0, 1) := by decide +kernel
theorem dX8_isThing_2 : decode cX8_isThing 2 = .ok (.aload_n 0, 1) := by decide +kernel
theorem dX8_isThing_3 : decode cX8_isThing 3 = .ok (.getfield 68, 3) := by decide +kernel
theorem dX8_isThing_6 : decode cX8_isThing 6 = .ok (.iconst 1, 1) := by decide +kernel
theorem dX8_isThing_7 : decode cX8_isThing 7 = .ok (.isub, 1) := by decide +kernel
theorem dX8_isThing_8 : decode cX8_isThing 8 = .ok (.invokestatic 61, 3) := by decide +kernel
theorem dX8_isThing_11 : decode cX8_isThing 11 = .ok (.ireturn, 1) := by decide +kernel
theorem dX8_letter_0 : decode cX8_letter 0 = .ok (.iload_n 1, 1) := by decide +kernel
theorem dX8_letter_1 : decode cX8_letter 1 = .ok (.ifCond .ge 10, 3) := by decide +kernel
theorem dX8_letter_4 : decode cX8_letter 4 = .ok (.aload_n 0, 1) := by decide +kernel
theorem dX8_letter_5 : decode cX8_letter 5 = .ok (.bipush (-4), 2) := by decide +kernel
theorem dX8_letter_7 : decode cX8_letter 7 = .ok (.invokevirtual 71, 3) := by decide +kernel
theorem dX8_letter_10 : decode cX8_letter 10 = .ok (.ireturn, 1) := by decide +kernel
theorem dX8_letter_11 : decode cX8_letter 11 = .ok (.iload_n 1, 1) := by decide +kernel
theorem dX8_letter_12 : decode cX8_letter 12 = .ok (.sipush 255, 3) := by decide +kernel
theorem dX8_letter_15 : decode cX8_letter 15 = .ok (.if_icmp .gt 12, 3) := by decide +kernel
theorem dX8_letter_18 : decode cX8_letter 18 = .ok (.aload_n 0, 1) := by decide +kernel
theorem dX8_letter_19 : decode cX8_letter 19 = .ok (.getfield 75, 3) := by decide +kernel
theorem dX8_letter_22 : decode cX8_letter 22 = .ok (.bipush 64, 2) := by decide +kernel
theorem dX8_letter_24 : decode cX8_letter 24 = .ok (.if_icmp .ne 10, 3) := by decide +kernel
theorem dX8_letter_27 : decode cX8_letter 27 = .ok (.aload_n 0, 1) := by decide +kernel
theorem dX8_letter_28 : decode cX8_letter 28 = .ok (.bipush (-6), 2) := by decide +kernel
theorem dX8_letter_30 : decode cX8_letter 30 = .ok (.invokevirtual 71, 3) := by decide +kernel
theorem dX8_letter_33 : decode cX8_letter 33 = .ok (.ireturn, 1) := by decide +kernel
theorem dX8_letter_34 : decode cX8_letter 34 = .ok (.aload_n 0, 1) := by decide +kernel
theorem dX8_letter_35 : decode cX8_letter 35 = .ok (.getfield 9, 3) := by decide +kernel
theorem dX8_letter_38 : decode cX8_letter 38 = .ok (.aload_n 0, 1) := by decide +kernel
theorem dX8_letter_39 : decode cX8_letter 39 = .ok (.dup, 1) := by decide +kernel
theorem dX8_letter_40 : decode cX8_letter 40 = .ok (.getfield 75, 3) := by decide +kernel
theorem dX8_letter_43 : decode cX8_letter 43 = .ok (.dup_x1, 1) := by decide +kernel
theorem dX8_letter_44 : decode cX8_letter 44 = .ok (.iconst 1, 1) := by decide +kernel
theorem dX8_letter_45 : decode cX8_letter 45 = .ok (.iadd, 1) := by decide +kernel
theorem dX8_letter_46 : decode cX8_letter 46 = .ok (.putfield 75, 3) := by decide +kernel
theorem dX8_letter_49 : decode cX8_letter 49 = .ok (.iload_n 1, 1) := by decide +kernel
theorem dX8_letter_50 : decode cX8_letter 50 = .ok (.iastore, 1) := by decide +kernel
theorem dX8_letter_51 : decode cX8_letter 51 = .ok (.aload_n 0, 1) := by decide +kernel
theorem dX8_letter_52 : decode cX8_letter 52 = .ok (.getfield 75, 3) := by decide +kernel
theorem dX8_letter_55 : decode cX8_letter 55 = .ok (.ireturn, 1) := by decide +kernel
theorem dX8_must_0 : decode cX8_must 0 = .ok (.aload_n 0, 1) := by decide +kernel
theorem dX8_must_1 : decode cX8_must 1 = .ok (.getfield 78, 3) := by decide +kernel
theorem dX8_must_4 : decode cX8_must 4 = .ok (.aload_n 0, 1) := by decide +kernel
theorem dX8_must_5 : decode cX8_must 5 = .ok (.getfield 75, 3) := by decide +kernel
theorem dX8_must_8 : decode cX8_must 8 = .ok (.if_icmp .ge 20, 3) := by decide +kernel
theorem dX8_must_11 : decode cX8_must 11 = .ok (.aload_n 0, 1) := by decide +kernel
theorem dX8_must_12 : decode cX8_must 12 = .ok (.getfield 9, 3) := by decide +kernel
theorem dX8_must_15 : decode cX8_must 15 = .ok (.aload_n 0, 1) := by decide +kernel
theorem dX8_must_16 : decode cX8_must 16 = .ok (.getfield 78, 3) := by decide +kernel
theorem dX8_must_19 : decode cX8_must 19 = .ok (.iaload, 1) := by decide +kernel
theorem dX8_must_20 : decode cX8_must 20 = .ok (.iload_n 1, 1) := by decide +kernel
theorem dX8_must_21 : decode cX8_must 21 = .ok (.if_icmp .ne 7, 3) := by decide +kernel
theorem dX8_must_24 : decode cX8_must 24 = .ok (.iconst 1, 1) := by decide +kernel
theorem dX8_must_25 : decode cX8_must 25 = .ok (.goto 4, 3) := by decide +kernel
theorem dX8_must_28 : decode cX8_must 28 = .ok (.iconst 0, 1) := by decide +kernel
theorem dX8_must_29 : decode cX8_must 29 = .ok (.istore_n 2, 1) := by decide +kernel
theorem dX8_must_30 : decode cX8_must 30 = .ok (.aload_n 0, 1) := by decide +kernel
theorem dX8_must_31 : decode cX8_must 31 = .ok (.dup, 1) := by decide +kernel
theorem dX8_must_32 : decode cX8_must 32 = .ok (.getfield 78, 3) := by decide +kernel
theorem dX8_must_35 : decode cX8_must 35 = .ok (.iload_n 2, 1) := by decide +kernel
theorem dX8_must_36 : decode cX8_must 36 = .ok (.ifCond .eq 7, 3) := by decide +kernel
theorem dX8_must_39 : decode cX8_must 39 = .ok (.iconst 1, 1) := by decide +kernel
theorem dX8_must_40 : decode cX8_must 40 = .ok (.goto 4, 3) := by decide +kernel
theorem dX8_must_43 : decode cX8_must 43 = .ok (.iconst 0, 1) := by decide +kernel
theorem dX8_must_44 : decode cX8_must 44 = .ok (.iadd, 1) := by decide +kernel
theorem dX8_must_45 : decode cX8_must 45 = .ok (.putfield 78, 3) := by decide +kernel
theorem dX8_must_48 : decode cX8_must 48 = .ok (.iload_n 2, 1) := by decide +kernel
theorem dX8_must_49 : decode cX8_must 49 = .ok (.ireturn, 1) := by decide +kernel
theorem dX8_isDigit_0 : decode cX8_isDigit 0 = .ok (.aload_n 0, 1) := by decide +kernel
theorem dX8_isDigit_1 : decode cX8_isDigit 1 = .ok (.getfield 78, 3) := by decide +kernel
theorem dX8_isDigit_4 : decode cX8_isDigit 4 = .ok (.aload_n 0, 1) := by decide +kernel
theorem dX8_isDigit_5 : decode cX8_isDigit 5 = .ok (.getfield 75, 3) := by decide +kernel
theorem dX8_isDigit_8 : decode cX8_isDigit 8 = .ok (.if_icmp .ge 35, 3) := by decide +kernel
theorem dX8_isDigit_11 : decode cX8_isDigit 11 = .ok (.aload_n 0, 1) := by decide +kernel
theorem dX8_isDigit_12 : decode cX8_isDigit 12 = .ok (.getfield 9, 3) := by decide +kernel
theorem dX8_isDigit_15 : decode cX8_isDigit 15 = .ok (.aload_n 0, 1) := by decide +kernel
theorem dX8_isDigit_16 : decode cX8_isDigit 16 = .ok (.getfield 78, 3) := by decide +kernel
theorem dX8_isDigit_19 : decode cX8_isDigit 19 = .ok (.iaload, 1) := by decide +kernel
theorem dX8_isDigit_20 : decode cX8_isDigit 20 = .ok (.bipush 48, 2) := by decide +kernel
theorem dX8_isDigit_22 : decode cX8_isDigit 22 = .ok (.if_icmp .lt 21, 3) := by decide +kernel
theorem dX8_isDigit_25 : decode cX8_isDigit 25 = .ok (.aload_n 0, 1) := by decide +kernel
theorem dX8_isDigit_26 : decode cX8_isDigit 26 = .ok (.getfield 9, 3) := by decide +kernel
theorem dX8_isDigit_29 : decode cX8_isDigit 29 = .ok (.aload_n 0, 1) := by decide +kernel
theorem dX8_isDigit_30 : decode cX8_isDigit 30 = .ok (.getfield 78, 3) := by decide +kernel
theorem dX8_isDigit_33 : decode cX8_isDigit 33 = .ok (.iaload, 1) := by decide +kernel
theorem dX8_isDigit_34 : decode cX8_isDigit 34 = .ok (.bipush 57, 2) := by decide +kernel
theorem dX8_isDigit_36 : decode cX8_isDigit 36 = .ok (.if_icmp .gt 7, 3) := by decide +kernel
theorem dX8_isDigit_39 : decode cX8_isDigit 39 = .ok (.iconst 1, 1) := by decide +kernel
theorem dX8_isDigit_40 : decode cX8_isDigit 40 = .ok (.goto 4, 3) := by decide +kernel
theorem dX8_isDigit_43 : decode cX8_isDigit 43 = .ok (.iconst 0, 1) := by decide +kernel
theorem dX8_isDigit_44 : decode cX8_isDigit 44 = .ok (.ireturn, 1) := by decide +kernel
theorem dX8_number_0 : decode cX8_number 0 = .ok (.iconst 0, 1) := by decide +kernel
theorem dX8_number_1 : decode cX8_number 1 = .ok (.istore_n 2, 1) := by decide +kernel
theorem dX8_number_2 : decode cX8_number 2 = .ok (.iconst 0, 1) := by decide +kernel
theorem dX8_number_3 : decode cX8_number 3 = .ok (.istore_n 3, 1) := by decide +kernel
theorem dX8_number_4 : decode cX8_number 4 = .ok (.iload_n 3, 1) := by decide +kernel
theorem dX8_number_5 : decode cX8_number 5 = .ok (.iload_n 1, 1) := by decide +kernel
theorem dX8_number_6 : decode cX8_number 6 = .ok (.if_icmp .ge 44, 3) := by decide +kernel
theorem dX8_number_9 : decode cX8_number 9 = .ok (.aload_n 0, 1) := by decide +kernel
theorem dX8_number_10 : decode cX8_number 10 = .ok (.invokevirtual 81, 3) := by decide +kernel
theorem dX8_number_13 : decode cX8_number 13 = .ok (.ifCond .eq 37, 3) := by decide +kernel
theorem dX8_number_16 : decode cX8_number 16 = .ok (.bipush 10, 2) := by decide +kernel
theorem dX8_number_18 : decode cX8_number 18 = .ok (.iload_n 2, 1) := by decide +kernel
theorem dX8_number_19 : decode cX8_number 19 = .ok (.imul, 1) := by decide +kernel
theorem dX8_number_20 : decode cX8_number 20 = .ok (.aload_n 0, 1) := by decide +kernel
theorem dX8_number_21 : decode cX8_number 21 = .ok (.getfield 9, 3) := by decide +kernel
theorem dX8_number_24 : decode cX8_number 24 = .ok (.aload_n 0, 1) := by decide +kernel
theorem dX8_number_25 : decode cX8_number 25 = .ok (.getfield 78, 3) := by decide +kernel
theorem dX8_number_28 : decode cX8_number 28 = .ok (.iaload, 1) := by decide +kernel
theorem dX8_number_29 : decode cX8_number 29 = .ok (.iadd, 1) := by decide +kernel
theorem dX8_number_30 : decode cX8_number 30 = .ok (.bipush 48, 2) := by decide +kernel
theorem dX8_number_32 : decode cX8_number 32 = .ok (.isub, 1) := by decide +kernel
theorem dX8_number_33 : decode cX8_number 33 = .ok (.istore_n 2, 1) := by decide +kernel
theorem dX8_number_34 : decode cX8_number 34 = .ok (.aload_n 0, 1) := by decide +kernel
theorem dX8_number_35 : decode cX8_number 35 = .ok (.dup, 1) := by decide +kernel
theorem dX8_number_36 : decode cX8_number 36 = .ok (.getfield 78, 3) := by decide +kernel
theorem dX8_number_39 : decode cX8_number 39 = .ok (.iconst 1, 1) := by decide +kernel
theorem dX8_number_40 : decode cX8_number 40 = .ok (.iadd, 1) := by decide +kernel
theorem dX8_number_41 : decode cX8_number 41 = .ok (.putfield 78, 3) := by decide +kernel
theorem dX8_number_44 : decode cX8_number 44 = .ok (.iinc 3 1, 3) := by decide +kernel
theorem dX8_number_47 : decode cX8_number 47 = .ok (.goto (-43), 3) := by decide +kernel
theorem dX8_number_50 : decode cX8_number 50 = .ok (.iload_n 3, 1) := by decide +kernel
theorem dX8_number_51 : decode cX8_number 51 = .ok (.ifCond .le 20, 3) := by decide +kernel
theorem dX8_number_54 : decode cX8_number 54 = .ok (.aload_n 0, 1) := by decide +kernel
theorem dX8_number_55 : decode cX8_number 55 = .ok (.getfield 34, 3) := by decide +kernel
theorem dX8_number_58 : decode cX8_number 58 = .ok (.aload_n 0, 1) := by decide +kernel
theorem dX8_number_59 : decode cX8_number 59 = .ok (.dup, 1) := by decide +kernel
theorem dX8_number_60 : decode cX8_number 60 = .ok (.getfield 85, 3) := by decide +kernel
theorem dX8_number_63 : decode cX8_number 63 = .ok (.dup_x1, 1) := by decide +kernel
theorem dX8_number_64 : decode cX8_number 64 = .ok (.iconst 1, 1) := by decide +kernel
theorem dX8_number_65 : decode cX8_number 65 = .ok (.iadd, 1) := by decide +kernel
theorem dX8_number_66 : decode cX8_number 66 = .ok (.putfield 85, 3) := by decide +kernel
theorem dX8_number_69 : decode cX8_number 69 = .ok (.iload_n 2, 1) := by decide +kernel
theorem dX8_number_70 : decode cX8_number 70 = .ok (.iastore, 1) := by decide +kernel
theorem dX8_number_71 : decode cX8_number 71 = .ok (.iload_n 3, 1) := by decide +kernel
theorem dX8_number_72 : decode cX8_number 72 = .ok (.ifCond .le 7, 3) := by decide +kernel
theorem dX8_number_75 : decode cX8_number 75 = .ok (.iconst 1, 1) := by decide +kernel
theorem dX8_number_76 : decode cX8_number 76 = .ok (.goto 4, 3) := by decide +kernel
theorem dX8_number_79 : decode cX8_number 79 = .ok (.iconst 0, 1) := by decide +kernel
theorem dX8_number_80 : decode cX8_number 80 = .ok (.ireturn, 1) := by decide +kernel
theorem dX8_comma_0 : decode cX8_comma 0 = .ok (.aload_n 0, 1) := by decide +kernel
theorem dX8_comma_1 : decode cX8_comma 1 = .ok (.bipush 44, 2) := by decide +kernel
theorem dX8_comma_3 : decode cX8_comma 3 = .ok (.invokevirtual 88, 3) := by decide +kernel
theorem dX8_comma_6 : decode cX8_comma 6 = .ok (.ifCond .eq 15, 3) := by decide +kernel
theorem dX8_comma_9 : decode cX8_comma 9 = .ok (.aload_n 0, 1) := by decide +kernel
theorem dX8_comma_10 : decode cX8_comma 10 = .ok (.iload_n 1, 1) := by decide +kernel
theorem dX8_comma_11 : decode cX8_comma 11 = .ok (.invokevirtual 92, 3) := by decide +kernel
theorem dX8_comma_14 : decode cX8_comma 14 = .ok (.ifCond .eq 7, 3) := by decide +kernel
theorem dX8_comma_17 : decode cX8_comma 17 = .ok (.iconst 1, 1) := by decide +kernel
theorem dX8_comma_18 : decode cX8_comma 18 = .ok (.goto 4, 3) := by decide +kernel
theorem dX8_comma_21 : decode cX8_comma 21 = .ok (.iconst 0, 1) := by decide +kernel
theorem dX8_comma_22 : decode cX8_comma 22 = .ok (.ireturn, 1) := by decide +kernel
theorem dX8_goesBy_0 : decode cX8_goesBy 0 = .ok (.aload_n 0, 1) := by decide +kernel
theorem dX8_goesBy_1 : decode cX8_goesBy 1 = .ok (.iconst 0, 1) := by decide +kernel
theorem dX8_goesBy_2 : decode cX8_goesBy 2 = .ok (.putfield 85, 3) := by decide +kernel
theorem dX8_goesBy_5 : decode cX8_goesBy 5 = .ok (.aload_n 0, 1) := by decide +kernel
theorem dX8_goesBy_6 : decode cX8_goesBy 6 = .ok (.bipush 110, 2) := by decide +kernel
theorem dX8_goesBy_8 : decode cX8_goesBy 8 = .ok (.invokevirtual 88, 3) := by decide +kernel
theorem dX8_goesBy_11 : decode cX8_goesBy 11 = .ok (.ifCond .eq 12, 3) := by decide +kernel
theorem dX8_goesBy_14 : decode cX8_goesBy 14 = .ok (.aload_n 0, 1) := by decide +kernel
theorem dX8_goesBy_15 : decode cX8_goesBy 15 = .ok (.iconst 1, 1) := by decide +kernel
theorem dX8_goesBy_16 : decode cX8_goesBy 16 = .ok (.invokevirtual 92, 3) := by decide +kernel
theorem dX8_goesBy_19 : decode cX8_goesBy 19 = .ok (.istore_n 1, 1) := by decide +kernel
theorem dX8_goesBy_20 : decode cX8_goesBy 20 = .ok (.goto 174, 3) := by decide +kernel
theorem dX8_goesBy_23 : decode cX8_goesBy 23 = .ok (.aload_n 0, 1) := by decide +kernel
theorem dX8_goesBy_24 : decode cX8_goesBy 24 = .ok (.bipush 119, 2) := by decide +kernel
theorem dX8_goesBy_26 : decode cX8_goesBy 26 = .ok (.invokevirtual 88, 3) := by decide +kernel
theorem dX8_goesBy_29 : decode cX8_goesBy 29 = .ok (.ifCond .eq 36, 3) := by decide +kernel
theorem dX8_goesBy_32 : decode cX8_goesBy 32 = .ok (.aload_n 0, 1) := by decide +kernel
theorem dX8_goesBy_33 : decode cX8_goesBy 33 = .ok (.iconst 1, 1) := by decide +kernel
theorem dX8_goesBy_34 : decode cX8_goesBy 34 = .ok (.invokevirtual 92, 3) := by decide +kernel
theorem dX8_goesBy_37 : decode cX8_goesBy 37 = .ok (.ifCond .eq 23, 3) := by decide +kernel
theorem dX8_goesBy_40 : decode cX8_goesBy 40 = .ok (.aload_n 0, 1) := by decide +kernel
theorem dX8_goesBy_41 : decode cX8_goesBy 41 = .ok (.iconst 1, 1) := by decide +kernel
theorem dX8_goesBy_42 : decode cX8_goesBy 42 = .ok (.invokevirtual 92, 3) := by decide +kernel
theorem dX8_goesBy_45 : decode cX8_goesBy 45 = .ok (.ifCond .eq 15, 3) := by decide +kernel
theorem dX8_goesBy_48 : decode cX8_goesBy 48 = .ok (.aload_n 0, 1) := by decide +kernel
theorem dX8_goesBy_49 : decode cX8_goesBy 49 = .ok (.iconst 2, 1) := by decide +kernel
theorem dX8_goesBy_50 : decode cX8_goesBy 50 = .ok (.invokevirtual 95, 3) := by decide +kernel
theorem dX8_goesBy_53 : decode cX8_goesBy 53 = .ok (.ifCond .eq 7, 3) := by decide +kernel
theorem dX8_goesBy_56 : decode cX8_goesBy 56 = .ok (.iconst 1, 1) := by decide +kernel
theorem dX8_goesBy_57 : decode cX8_goesBy 57 = .ok (.goto 4, 3) := by decide +kernel
theorem dX8_goesBy_60 : decode cX8_goesBy 60 = .ok (.iconst 0, 1) := by decide +kernel
theorem dX8_goesBy_61 : decode cX8_goesBy 61 = .ok (.istore_n 1, 1) := by decide +kernel
theorem dX8_goesBy_62 : decode cX8_goesBy 62 = .ok (.goto 132, 3) := by decide +kernel
theorem dX8_goesBy_65 : decode cX8_goesBy 65 = .ok (.aload_n 0, 1) := by decide +kernel
theorem dX8_goesBy_66 : decode cX8_goesBy 66 = .ok (.bipush 112, 2) := by decide +kernel
theorem dX8_goesBy_68 : decode cX8_goesBy 68 = .ok (.invokevirtual 88, 3) := by decide +kernel
theorem dX8_goesBy_71 : decode cX8_goesBy 71 = .ok (.ifCond .eq 52, 3) := by decide +kernel
theorem dX8_goesBy_74 : decode cX8_goesBy 74 = .ok (.aload_n 0, 1) := by decide +kernel
theorem dX8_goesBy_75 : decode cX8_goesBy 75 = .ok (.iconst 1, 1) := by decide +kernel
theorem dX8_goesBy_76 : decode cX8_goesBy 76 = .ok (.invokevirtual 92, 3) := by decide +kernel
theorem dX8_goesBy_79 : decode cX8_goesBy 79 = .ok (.ifCond .eq 39, 3) := by decide +kernel
theorem dX8_goesBy_82 : decode cX8_goesBy 82 = .ok (.aload_n 0, 1) := by decide +kernel
theorem dX8_goesBy_83 : decode cX8_goesBy 83 = .ok (.iconst 1, 1) := by decide +kernel
theorem dX8_goesBy_84 : decode cX8_goesBy 84 = .ok (.invokevirtual 92, 3) := by decide +kernel
theorem dX8_goesBy_87 : decode cX8_goesBy 87 = .ok (.ifCond .eq 31, 3) := by decide +kernel
theorem dX8_goesBy_90 : decode cX8_goesBy 90 = .ok (.aload_n 0, 1) := by decide +kernel
theorem dX8_goesBy_91 : decode cX8_goesBy 91 = .ok (.iconst 3, 1) := by decide +kernel
theorem dX8_goesBy_92 : decode cX8_goesBy 92 = .ok (.invokevirtual 95, 3) := by decide +kernel
theorem dX8_goesBy_95 : decode cX8_goesBy 95 = .ok (.ifCond .eq 23, 3) := by decide +kernel
theorem dX8_goesBy_98 : decode cX8_goesBy 98 = .ok (.aload_n 0, 1) := by decide +kernel
theorem dX8_goesBy_99 : decode cX8_goesBy 99 = .ok (.iconst 1, 1) := by decide +kernel
theorem dX8_goesBy_100 : decode cX8_goesBy 100 = .ok (.invokevirtual 95, 3) := by decide +kernel
theorem dX8_goesBy_103 : decode cX8_goesBy 103 = .ok (.ifCond .eq 15, 3) := by decide +kernel
theorem dX8_goesBy_106 : decode cX8_goesBy 106 = .ok (.aload_n 0, 1) := by decide +kernel
theorem dX8_goesBy_107 : decode cX8_goesBy 107 = .ok (.iconst 1, 1) := by decide +kernel
theorem dX8_goesBy_108 : decode cX8_goesBy 108 = .ok (.invokevirtual 95, 3) := by decide +kernel
theorem dX8_goesBy_111 : decode cX8_goesBy 111 = .ok (.ifCond .eq 7, 3) := by decide +kernel
theorem dX8_goesBy_114 : decode cX8_goesBy 114 = .ok (.iconst 1, 1) := by decide +kernel
theorem dX8_goesBy_115 : decode cX8_goesBy 115 = .ok (.goto 4, 3) := by decide +kernel
theorem dX8_goesBy_118 : decode cX8_goesBy 118 = .ok (.iconst 0, 1) := by decide +kernel
theorem dX8_goesBy_119 : decode cX8_goesBy 119 = .ok (.istore_n 1, 1) := by decide +kernel
theorem dX8_goesBy_120 : decode cX8_goesBy 120 = .ok (.goto 74, 3) := by decide +kernel
theorem dX8_goesBy_123 : decode cX8_goesBy 123 = .ok (.aload_n 0, 1) := by decide +kernel
theorem dX8_goesBy_124 : decode cX8_goesBy 124 = .ok (.bipush 116, 2) := by decide +kernel
theorem dX8_goesBy_126 : decode cX8_goesBy 126 = .ok (.invokevirtual 88, 3) := by decide +kernel
theorem dX8_goesBy_129 : decode cX8_goesBy 129 = .ok (.ifCond .eq 63, 3) := by decide +kernel
theorem dX8_goesBy_132 : decode cX8_goesBy 132 = .ok (.aload_n 0, 1) := by decide +kernel
theorem dX8_goesBy_133 : decode cX8_goesBy 133 = .ok (.iconst 1, 1) := by decide +kernel
theorem dX8_goesBy_134 : decode cX8_goesBy 134 = .ok (.invokevirtual 92, 3) := by decide +kernel
theorem dX8_goesBy_137 : decode cX8_goesBy 137 = .ok (.ifCond .eq 55, 3) := by decide +kernel
theorem dX8_goesBy_140 : decode cX8_goesBy 140 = .ok (.aload_n 0, 1) := by decide +kernel
theorem dX8_goesBy_141 : decode cX8_goesBy 141 = .ok (.iconst 1, 1) := by decide +kernel
theorem dX8_goesBy_142 : decode cX8_goesBy 142 = .ok (.invokevirtual 92, 3) := by decide +kernel
theorem dX8_goesBy_145 : decode cX8_goesBy 145 = .ok (.ifCond .eq 47, 3) := by decide +kernel
theorem dX8_goesBy_148 : decode cX8_goesBy 148 = .ok (.aload_n 0, 1) := by decide +kernel
theorem dX8_goesBy_149 : decode cX8_goesBy 149 = .ok (.iconst 1, 1) := by decide +kernel
theorem dX8_goesBy_150 : decode cX8_goesBy 150 = .ok (.invokevirtual 92, 3) := by decide +kernel
theorem dX8_goesBy_153 : decode cX8_goesBy 153 = .ok (.ifCond .eq 39, 3) := by decide +kernel
theorem dX8_goesBy_156 : decode cX8_goesBy 156 = .ok (.aload_n 0, 1) := by decide +kernel
theorem dX8_goesBy_157 : decode cX8_goesBy 157 = .ok (.iconst 1, 1) := by decide +kernel
theorem dX8_goesBy_158 : decode cX8_goesBy 158 = .ok (.invokevirtual 92, 3) := by decide +kernel
theorem dX8_goesBy_161 : decode cX8_goesBy 161 = .ok (.ifCond .eq 31, 3) := by decide +kernel
theorem dX8_goesBy_164 : decode cX8_goesBy 164 = .ok (.aload_n 0, 1) := by decide +kernel
theorem dX8_goesBy_165 : decode cX8_goesBy 165 = .ok (.iconst 1, 1) := by decide +kernel
theorem dX8_goesBy_166 : decode cX8_goesBy 166 = .ok (.invokevirtual 95, 3) := by decide +kernel
theorem dX8_goesBy_169 : decode cX8_goesBy 169 = .ok (.ifCond .eq 23, 3) := by decide +kernel
theorem dX8_goesBy_172 : decode cX8_goesBy 172 = .ok (.aload_n 0, 1) := by decide +kernel
theorem dX8_goesBy_173 : decode cX8_goesBy 173 = .ok (.iconst 3, 1) := by decide +kernel
theorem dX8_goesBy_174 : decode cX8_goesBy 174 = .ok (.invokevirtual 95, 3) := by decide +kernel
theorem dX8_goesBy_177 : decode cX8_goesBy 177 = .ok (.ifCond .eq 15, 3) := by decide +kernel
theorem dX8_goesBy_180 : decode cX8_goesBy 180 = .ok (.aload_n 0, 1) := by decide +kernel
theorem dX8_goesBy_181 : decode cX8_goesBy 181 = .ok (.iconst 2, 1) := by decide +kernel
theorem dX8_goesBy_182 : decode cX8_goesBy 182 = .ok (.invokevirtual 95, 3) := by decide +kernel
theorem dX8_goesBy_185 : decode cX8_goesBy 185 = .ok (.ifCond .eq 7, 3) := by decide +kernel
theorem dX8_goesBy_188 : decode cX8_goesBy 188 = .ok (.iconst 1, 1) := by decide +kernel
theorem dX8_goesBy_189 : decode cX8_goesBy 189 = .ok (.goto 4, 3) := by decide +kernel
theorem dX8_goesBy_192 : decode cX8_goesBy 192 = .ok (.iconst 0, 1) := by decide +kernel
theorem dX8_goesBy_193 : decode cX8_goesBy 193 = .ok (.istore_n 1, 1) := by decide +kernel
theorem dX8_goesBy_194 : decode cX8_goesBy 194 = .ok (.iload_n 1, 1) := by decide +kernel
theorem dX8_goesBy_195 : decode cX8_goesBy 195 = .ok (.ifCond .eq 16, 3) := by decide +kernel
theorem dX8_goesBy_198 : decode cX8_goesBy 198 = .ok (.aload_n 0, 1) := by decide +kernel
theorem dX8_goesBy_199 : decode cX8_goesBy 199 = .ok (.bipush 59, 2) := by decide +kernel
theorem dX8_goesBy_201 : decode cX8_goesBy 201 = .ok (.invokevirtual 88, 3) := by decide +kernel
theorem dX8_goesBy_204 : decode cX8_goesBy 204 = .ok (.ifCond .eq 7, 3) := by decide +kernel
theorem dX8_goesBy_207 : decode cX8_goesBy 207 = .ok (.iconst 1, 1) := by decide +kernel
theorem dX8_goesBy_208 : decode cX8_goesBy 208 = .ok (.goto 4, 3) := by decide +kernel
theorem dX8_goesBy_211 : decode cX8_goesBy 211 = .ok (.iconst 0, 1) := by decide +kernel
theorem dX8_goesBy_212 : decode cX8_goesBy 212 = .ok (.ireturn, 1) := by decide +kernel
theorem dX8_faultOfForm_0 : decode cX8_faultOfForm 0 = .ok (.aload_n 0, 1) := by decide +kernel
theorem dX8_faultOfForm_1 : decode cX8_faultOfForm 1 = .ok (.iconst 0, 1) := by decide +kernel
theorem dX8_faultOfForm_2 : decode cX8_faultOfForm 2 = .ok (.putfield 78, 3) := by decide +kernel
theorem dX8_faultOfForm_5 : decode cX8_faultOfForm 5 = .ok (.aload_n 0, 1) := by decide +kernel
theorem dX8_faultOfForm_6 : decode cX8_faultOfForm 6 = .ok (.invokevirtual 98, 3) := by decide +kernel
theorem dX8_faultOfForm_9 : decode cX8_faultOfForm 9 = .ok (.ifCond .ne 8, 3) := by decide +kernel
theorem dX8_faultOfForm_12 : decode cX8_faultOfForm 12 = .ok (.aload_n 0, 1) := by decide +kernel
theorem dX8_faultOfForm_13 : decode cX8_faultOfForm 13 = .ok (.getfield 78, 3) := by decide +kernel
theorem dX8_faultOfForm_16 : decode cX8_faultOfForm 16 = .ok (.ireturn, 1) := by decide +kernel
theorem dX8_faultOfForm_17 : decode cX8_faultOfForm 17 = .ok (.aload_n 0, 1) := by decide +kernel
theorem dX8_faultOfForm_18 : decode cX8_faultOfForm 18 = .ok (.getfield 78, 3) := by decide +kernel
theorem dX8_faultOfForm_21 : decode cX8_faultOfForm 21 = .ok (.aload_n 0, 1) := by decide +kernel
theorem dX8_faultOfForm_22 : decode cX8_faultOfForm 22 = .ok (.getfield 75, 3) := by decide +kernel
theorem dX8_faultOfForm_25 : decode cX8_faultOfForm 25 = .ok (.if_icmp .ge 15, 3) := by decide +kernel
theorem dX8_faultOfForm_28 : decode cX8_faultOfForm 28 = .ok (.aload_n 0, 1) := by decide +kernel
theorem dX8_faultOfForm_29 : decode cX8_faultOfForm 29 = .ok (.invokevirtual 98, 3) := by decide +kernel
theorem dX8_faultOfForm_32 : decode cX8_faultOfForm 32 = .ok (.ifCond .ne (-15), 3) := by decide +kernel
theorem dX8_faultOfForm_35 : decode cX8_faultOfForm 35 = .ok (.aload_n 0, 1) := by decide +kernel
theorem dX8_faultOfForm_36 : decode cX8_faultOfForm 36 = .ok (.getfield 78, 3) := by decide +kernel
theorem dX8_faultOfForm_39 : decode cX8_faultOfForm 39 = .ok (.ireturn, 1) := by decide +kernel
theorem dX8_faultOfForm_40 : decode cX8_faultOfForm 40 = .ok (.bipush (-9), 2) := by decide +kernel
theorem dX8_faultOfForm_42 : decode cX8_faultOfForm 42 = .ok (.ireturn, 1) := by decide +kernel
theorem dX8_placesNeeded_0 : decode cX8_placesNeeded 0 = .ok (.iconst 1, 1) := by decide +kernel
theorem dX8_placesNeeded_1 : decode cX8_placesNeeded 1 = .ok (.istore_n 1, 1) := by decide +kernel
theorem dX8_placesNeeded_2 : decode cX8_placesNeeded 2 = .ok (.iconst 0, 1) := by decide +kernel
theorem dX8_placesNeeded_3 : decode cX8_placesNeeded 3 = .ok (.istore_n 2, 1) := by decide +kernel
theorem dX8_placesNeeded_4 : decode cX8_placesNeeded 4 = .ok (.iload_n 2, 1) := by decide +kernel
theorem dX8_placesNeeded_5 : decode cX8_placesNeeded 5 = .ok (.bipush 7, 2) := by decide +kernel
theorem dX8_placesNeeded_7 : decode cX8_placesNeeded 7 = .ok (.if_icmp .ge 45, 3) := by decide +kernel
theorem dX8_placesNeeded_10 : decode cX8_placesNeeded 10 = .ok (.iconst 0, 1) := by decide +kernel
theorem dX8_placesNeeded_11 : decode cX8_placesNeeded 11 = .ok (.istore_n 3, 1) := by decide +kernel
theorem dX8_placesNeeded_12 : decode cX8_placesNeeded 12 = .ok (.iload_n 3, 1) := by decide +kernel
theorem dX8_placesNeeded_13 : decode cX8_placesNeeded 13 = .ok (.bipush 7, 2) := by decide +kernel
theorem dX8_placesNeeded_15 : decode cX8_placesNeeded 15 = .ok (.if_icmp .ge 31, 3) := by decide +kernel
theorem dX8_placesNeeded_18 : decode cX8_placesNeeded 18 = .ok (.aload_n 0, 1) := by decide +kernel
theorem dX8_placesNeeded_19 : decode cX8_placesNeeded 19 = .ok (.getfield 25, 3) := by decide +kernel
theorem dX8_placesNeeded_22 : decode cX8_placesNeeded 22 = .ok (.iload_n 2, 1) := by decide +kernel
theorem dX8_placesNeeded_23 : decode cX8_placesNeeded 23 = .ok (.aaload, 1) := by decide +kernel
theorem dX8_placesNeeded_24 : decode cX8_placesNeeded 24 = .ok (.iload_n 3, 1) := by decide +kernel
theorem dX8_placesNeeded_25 : decode cX8_placesNeeded 25 = .ok (.iaload, 1) := by decide +kernel
theorem dX8_placesNeeded_26 : decode cX8_placesNeeded 26 = .ok (.ifCond .le 12, 3) := by decide +kernel
theorem dX8_placesNeeded_29 : decode cX8_placesNeeded 29 = .ok (.iload_n 2, 1) := by decide +kernel
theorem dX8_placesNeeded_30 : decode cX8_placesNeeded 30 = .ok (.iload_n 1, 1) := by decide +kernel
theorem dX8_placesNeeded_31 : decode cX8_placesNeeded 31 = .ok (.if_icmp .le 7, 3) := by decide +kernel
theorem dX8_placesNeeded_34 : decode cX8_placesNeeded 34 = .ok (.iload_n 2, 1) := by decide +kernel
theorem dX8_placesNeeded_35 : decode cX8_placesNeeded 35 = .ok (.goto 4, 3) := by decide +kernel
theorem dX8_placesNeeded_38 : decode cX8_placesNeeded 38 = .ok (.iload_n 1, 1) := by decide +kernel
theorem dX8_placesNeeded_39 : decode cX8_placesNeeded 39 = .ok (.istore_n 1, 1) := by decide +kernel
theorem dX8_placesNeeded_40 : decode cX8_placesNeeded 40 = .ok (.iinc 3 1, 3) := by decide +kernel
theorem dX8_placesNeeded_43 : decode cX8_placesNeeded 43 = .ok (.goto (-31), 3) := by decide +kernel
theorem dX8_placesNeeded_46 : decode cX8_placesNeeded 46 = .ok (.iinc 2 1, 3) := by decide +kernel
theorem dX8_placesNeeded_49 : decode cX8_placesNeeded 49 = .ok (.goto (-45), 3) := by decide +kernel
theorem dX8_placesNeeded_52 : decode cX8_placesNeeded 52 = .ok (.iconst 0, 1) := by decide +kernel
theorem dX8_placesNeeded_53 : decode cX8_placesNeeded 53 = .ok (.istore_n 2, 1) := by decide +kernel
theorem dX8_placesNeeded_54 : decode cX8_placesNeeded 54 = .ok (.iload_n 2, 1) := by decide +kernel
theorem dX8_placesNeeded_55 : decode cX8_placesNeeded 55 = .ok (.aload_n 0, 1) := by decide +kernel
theorem dX8_placesNeeded_56 : decode cX8_placesNeeded 56 = .ok (.getfield 65, 3) := by decide +kernel
theorem dX8_placesNeeded_59 : decode cX8_placesNeeded 59 = .ok (.if_icmp .ge 61, 3) := by decide +kernel
theorem dX8_placesNeeded_62 : decode cX8_placesNeeded 62 = .ok (.aload_n 0, 1) := by decide +kernel
theorem dX8_placesNeeded_63 : decode cX8_placesNeeded 63 = .ok (.getfield 28, 3) := by decide +kernel
theorem dX8_placesNeeded_66 : decode cX8_placesNeeded 66 = .ok (.iload_n 2, 1) := by decide +kernel
theorem dX8_placesNeeded_67 : decode cX8_placesNeeded 67 = .ok (.aaload, 1) := by decide +kernel
theorem dX8_placesNeeded_68 : decode cX8_placesNeeded 68 = .ok (.astore_n 3, 1) := by decide +kernel
theorem dX8_placesNeeded_69 : decode cX8_placesNeeded 69 = .ok (.aload_n 3, 1) := by decide +kernel
theorem dX8_placesNeeded_70 : decode cX8_placesNeeded 70 = .ok (.iconst 0, 1) := by decide +kernel
theorem dX8_placesNeeded_71 : decode cX8_placesNeeded 71 = .ok (.iaload, 1) := by decide +kernel
theorem dX8_placesNeeded_72 : decode cX8_placesNeeded 72 = .ok (.iload_n 1, 1) := by decide +kernel
theorem dX8_placesNeeded_73 : decode cX8_placesNeeded 73 = .ok (.if_icmp .le 9, 3) := by decide +kernel
theorem dX8_placesNeeded_76 : decode cX8_placesNeeded 76 = .ok (.aload_n 3, 1) := by decide +kernel
theorem dX8_placesNeeded_77 : decode cX8_placesNeeded 77 = .ok (.iconst 0, 1) := by decide +kernel
theorem dX8_placesNeeded_78 : decode cX8_placesNeeded 78 = .ok (.iaload, 1) := by decide +kernel
theorem dX8_placesNeeded_79 : decode cX8_placesNeeded 79 = .ok (.goto 4, 3) := by decide +kernel
theorem dX8_placesNeeded_82 : decode cX8_placesNeeded 82 = .ok (.iload_n 1, 1) := by decide +kernel
theorem dX8_placesNeeded_83 : decode cX8_placesNeeded 83 = .ok (.istore_n 1, 1) := by decide +kernel
theorem dX8_placesNeeded_84 : decode cX8_placesNeeded 84 = .ok (.aload_n 3, 1) := by decide +kernel
theorem dX8_placesNeeded_85 : decode cX8_placesNeeded 85 = .ok (.iconst 1, 1) := by decide +kernel
theorem dX8_placesNeeded_86 : decode cX8_placesNeeded 86 = .ok (.iaload, 1) := by decide +kernel
theorem dX8_placesNeeded_87 : decode cX8_placesNeeded 87 = .ok (.iload_n 1, 1) := by decide +kernel
theorem dX8_placesNeeded_88 : decode cX8_placesNeeded 88 = .ok (.if_icmp .le 9, 3) := by decide +kernel
theorem dX8_placesNeeded_91 : decode cX8_placesNeeded 91 = .ok (.aload_n 3, 1) := by decide +kernel
theorem dX8_placesNeeded_92 : decode cX8_placesNeeded 92 = .ok (.iconst 1, 1) := by decide +kernel
theorem dX8_placesNeeded_93 : decode cX8_placesNeeded 93 = .ok (.iaload, 1) := by decide +kernel
theorem dX8_placesNeeded_94 : decode cX8_placesNeeded 94 = .ok (.goto 4, 3) := by decide +kernel
theorem dX8_placesNeeded_97 : decode cX8_placesNeeded 97 = .ok (.iload_n 1, 1) := by decide +kernel
theorem dX8_placesNeeded_98 : decode cX8_placesNeeded 98 = .ok (.istore_n 1, 1) := by decide +kernel
theorem dX8_placesNeeded_99 : decode cX8_placesNeeded 99 = .ok (.aload_n 3, 1) := by decide +kernel
theorem dX8_placesNeeded_100 : decode cX8_placesNeeded 100 = .ok (.iconst 5, 1) := by decide +kernel
theorem dX8_placesNeeded_101 : decode cX8_placesNeeded 101 = .ok (.iaload, 1) := by decide +kernel
theorem dX8_placesNeeded_102 : decode cX8_placesNeeded 102 = .ok (.iload_n 1, 1) := by decide +kernel
theorem dX8_placesNeeded_103 : decode cX8_placesNeeded 103 = .ok (.if_icmp .le 9, 3) := by decide +kernel
theorem dX8_placesNeeded_106 : decode cX8_placesNeeded 106 = .ok (.aload_n 3, 1) := by decide +kernel
theorem dX8_placesNeeded_107 : decode cX8_placesNeeded 107 = .ok (.iconst 5, 1) := by decide +kernel
theorem dX8_placesNeeded_108 : decode cX8_placesNeeded 108 = .ok (.iaload, 1) := by decide +kernel
theorem dX8_placesNeeded_109 : decode cX8_placesNeeded 109 = .ok (.goto 4, 3) := by decide +kernel
theorem dX8_placesNeeded_112 : decode cX8_placesNeeded 112 = .ok (.iload_n 1, 1) := by decide +kernel
theorem dX8_placesNeeded_113 : decode cX8_placesNeeded 113 = .ok (.istore_n 1, 1) := by decide +kernel
theorem dX8_placesNeeded_114 : decode cX8_placesNeeded 114 = .ok (.iinc 2 1, 3) := by decide +kernel
theorem dX8_placesNeeded_117 : decode cX8_placesNeeded 117 = .ok (.goto (-63), 3) := by decide +kernel
theorem dX8_placesNeeded_120 : decode cX8_placesNeeded 120 = .ok (.iconst 0, 1) := by decide +kernel
theorem dX8_placesNeeded_121 : decode cX8_placesNeeded 121 = .ok (.istore_n 2, 1) := by decide +kernel
theorem dX8_placesNeeded_122 : decode cX8_placesNeeded 122 = .ok (.iload_n 2, 1) := by decide +kernel
theorem dX8_placesNeeded_123 : decode cX8_placesNeeded 123 = .ok (.aload_n 0, 1) := by decide +kernel
theorem dX8_placesNeeded_124 : decode cX8_placesNeeded 124 = .ok (.getfield 68, 3) := by decide +kernel
theorem dX8_placesNeeded_127 : decode cX8_placesNeeded 127 = .ok (.if_icmp .ge 72, 3) := by decide +kernel
theorem dX8_placesNeeded_130 : decode cX8_placesNeeded 130 = .ok (.aload_n 0, 1) := by decide +kernel
theorem dX8_placesNeeded_131 : decode cX8_placesNeeded 131 = .ok (.getfield 31, 3) := by decide +kernel
theorem dX8_placesNeeded_134 : decode cX8_placesNeeded 134 = .ok (.iload_n 2, 1) := by decide +kernel
theorem dX8_placesNeeded_135 : decode cX8_placesNeeded 135 = .ok (.aaload, 1) := by decide +kernel
theorem dX8_placesNeeded_136 : decode cX8_placesNeeded 136 = .ok (.astore_n 3, 1) := by decide +kernel
theorem dX8_placesNeeded_137 : decode cX8_placesNeeded 137 = .ok (.aload_n 3, 1) := by decide +kernel
theorem dX8_placesNeeded_138 : decode cX8_placesNeeded 138 = .ok (.iconst 2, 1) := by decide +kernel
theorem dX8_placesNeeded_139 : decode cX8_placesNeeded 139 = .ok (.iaload, 1) := by decide +kernel
theorem dX8_placesNeeded_140 : decode cX8_placesNeeded 140 = .ok (.iload_n 1, 1) := by decide +kernel
theorem dX8_placesNeeded_141 : decode cX8_placesNeeded 141 = .ok (.if_icmp .le 9, 3) := by decide +kernel
theorem dX8_placesNeeded_144 : decode cX8_placesNeeded 144 = .ok (.aload_n 3, 1) := by decide +kernel
theorem dX8_placesNeeded_145 : decode cX8_placesNeeded 145 = .ok (.iconst 2, 1) := by decide +kernel
theorem dX8_placesNeeded_146 : decode cX8_placesNeeded 146 = .ok (.iaload, 1) := by decide +kernel
theorem dX8_placesNeeded_147 : decode cX8_placesNeeded 147 = .ok (.goto 4, 3) := by decide +kernel
theorem dX8_placesNeeded_150 : decode cX8_placesNeeded 150 = .ok (.iload_n 1, 1) := by decide +kernel
theorem dX8_placesNeeded_151 : decode cX8_placesNeeded 151 = .ok (.istore_n 1, 1) := by decide +kernel
theorem dX8_placesNeeded_152 : decode cX8_placesNeeded 152 = .ok (.aload_n 3, 1) := by decide +kernel
theorem dX8_placesNeeded_153 : decode cX8_placesNeeded 153 = .ok (.iconst 3, 1) := by decide +kernel
theorem dX8_placesNeeded_154 : decode cX8_placesNeeded 154 = .ok (.iaload, 1) := by decide +kernel
theorem dX8_placesNeeded_155 : decode cX8_placesNeeded 155 = .ok (.iload_n 1, 1) := by decide +kernel
theorem dX8_placesNeeded_156 : decode cX8_placesNeeded 156 = .ok (.if_icmp .le 9, 3) := by decide +kernel
theorem dX8_placesNeeded_159 : decode cX8_placesNeeded 159 = .ok (.aload_n 3, 1) := by decide +kernel
theorem dX8_placesNeeded_160 : decode cX8_placesNeeded 160 = .ok (.iconst 3, 1) := by decide +kernel
theorem dX8_placesNeeded_161 : decode cX8_placesNeeded 161 = .ok (.iaload, 1) := by decide +kernel
theorem dX8_placesNeeded_162 : decode cX8_placesNeeded 162 = .ok (.goto 4, 3) := by decide +kernel
theorem dX8_placesNeeded_165 : decode cX8_placesNeeded 165 = .ok (.iload_n 1, 1) := by decide +kernel
theorem dX8_placesNeeded_166 : decode cX8_placesNeeded 166 = .ok (.istore_n 1, 1) := by decide +kernel
theorem dX8_placesNeeded_167 : decode cX8_placesNeeded 167 = .ok (.aload_n 3, 1) := by decide +kernel
theorem dX8_placesNeeded_168 : decode cX8_placesNeeded 168 = .ok (.bipush 7, 2) := by decide +kernel
theorem dX8_placesNeeded_170 : decode cX8_placesNeeded 170 = .ok (.iaload, 1) := by decide +kernel
theorem dX8_placesNeeded_171 : decode cX8_placesNeeded 171 = .ok (.bipush 10, 2) := by decide +kernel
theorem dX8_placesNeeded_173 : decode cX8_placesNeeded 173 = .ok (.if_icmp .ge 18, 3) := by decide +kernel
theorem dX8_placesNeeded_176 : decode cX8_placesNeeded 176 = .ok (.aload_n 3, 1) := by decide +kernel
theorem dX8_placesNeeded_177 : decode cX8_placesNeeded 177 = .ok (.bipush 7, 2) := by decide +kernel
theorem dX8_placesNeeded_179 : decode cX8_placesNeeded 179 = .ok (.iaload, 1) := by decide +kernel
theorem dX8_placesNeeded_180 : decode cX8_placesNeeded 180 = .ok (.iload_n 1, 1) := by decide +kernel
theorem dX8_placesNeeded_181 : decode cX8_placesNeeded 181 = .ok (.if_icmp .le 10, 3) := by decide +kernel
theorem dX8_placesNeeded_184 : decode cX8_placesNeeded 184 = .ok (.aload_n 3, 1) := by decide +kernel
theorem dX8_placesNeeded_185 : decode cX8_placesNeeded 185 = .ok (.bipush 7, 2) := by decide +kernel
theorem dX8_placesNeeded_187 : decode cX8_placesNeeded 187 = .ok (.iaload, 1) := by decide +kernel
theorem dX8_placesNeeded_188 : decode cX8_placesNeeded 188 = .ok (.goto 4, 3) := by decide +kernel
theorem dX8_placesNeeded_191 : decode cX8_placesNeeded 191 = .ok (.iload_n 1, 1) := by decide +kernel
theorem dX8_placesNeeded_192 : decode cX8_placesNeeded 192 = .ok (.istore_n 1, 1) := by decide +kernel
theorem dX8_placesNeeded_193 : decode cX8_placesNeeded 193 = .ok (.iinc 2 1, 3) := by decide +kernel
theorem dX8_placesNeeded_196 : decode cX8_placesNeeded 196 = .ok (.goto (-74), 3) := by decide +kernel
theorem dX8_placesNeeded_199 : decode cX8_placesNeeded 199 = .ok (.iload_n 1, 1) := by decide +kernel
theorem dX8_placesNeeded_200 : decode cX8_placesNeeded 200 = .ok (.iconst 1, 1) := by decide +kernel
theorem dX8_placesNeeded_201 : decode cX8_placesNeeded 201 = .ok (.iadd, 1) := by decide +kernel
theorem dX8_placesNeeded_202 : decode cX8_placesNeeded 202 = .ok (.ireturn, 1) := by decide +kernel
theorem dX8_placesCome_0 : decode cX8_placesCome 0 = .ok (.aload_n 0, 1) := by decide +kernel
theorem dX8_placesCome_1 : decode cX8_placesCome 1 = .ok (.getfield 34, 3) := by decide +kernel
theorem dX8_placesCome_4 : decode cX8_placesCome 4 = .ok (.iconst 0, 1) := by decide +kernel
theorem dX8_placesCome_5 : decode cX8_placesCome 5 = .ok (.iaload, 1) := by decide +kernel
theorem dX8_placesCome_6 : decode cX8_placesCome 6 = .ok (.aload_n 0, 1) := by decide +kernel
theorem dX8_placesCome_7 : decode cX8_placesCome 7 = .ok (.invokevirtual 101, 3) := by decide +kernel
theorem dX8_placesCome_10 : decode cX8_placesCome 10 = .ok (.bipush 7, 2) := by decide +kernel
theorem dX8_placesCome_12 : decode cX8_placesCome 12 = .ok (.invokestatic 61, 3) := by decide +kernel
theorem dX8_placesCome_15 : decode cX8_placesCome 15 = .ok (.ifCond .ne 5, 3) := by decide +kernel
theorem dX8_placesCome_18 : decode cX8_placesCome 18 = .ok (.iconst 0, 1) := by decide +kernel
theorem dX8_placesCome_19 : decode cX8_placesCome 19 = .ok (.ireturn, 1) := by decide +kernel
theorem dX8_placesCome_20 : decode cX8_placesCome 20 = .ok (.aload_n 0, 1) := by decide +kernel
theorem dX8_placesCome_21 : decode cX8_placesCome 21 = .ok (.aload_n 0, 1) := by decide +kernel
theorem dX8_placesCome_22 : decode cX8_placesCome 22 = .ok (.getfield 34, 3) := by decide +kernel
theorem dX8_placesCome_25 : decode cX8_placesCome 25 = .ok (.iconst 0, 1) := by decide +kernel
theorem dX8_placesCome_26 : decode cX8_placesCome 26 = .ok (.iaload, 1) := by decide +kernel
theorem dX8_placesCome_27 : decode cX8_placesCome 27 = .ok (.putfield 19, 3) := by decide +kernel
theorem dX8_placesCome_30 : decode cX8_placesCome 30 = .ok (.iconst 1, 1) := by decide +kernel
theorem dX8_placesCome_31 : decode cX8_placesCome 31 = .ok (.ireturn, 1) := by decide +kernel
theorem dX8_wayComes_0 : decode cX8_wayComes 0 = .ok (.aload_n 0, 1) := by decide +kernel
theorem dX8_wayComes_1 : decode cX8_wayComes 1 = .ok (.aload_n 0, 1) := by decide +kernel
theorem dX8_wayComes_2 : decode cX8_wayComes 2 = .ok (.getfield 34, 3) := by decide +kernel
theorem dX8_wayComes_5 : decode cX8_wayComes 5 = .ok (.iconst 0, 1) := by decide +kernel
theorem dX8_wayComes_6 : decode cX8_wayComes 6 = .ok (.iaload, 1) := by decide +kernel
theorem dX8_wayComes_7 : decode cX8_wayComes 7 = .ok (.invokevirtual 105, 3) := by decide +kernel
theorem dX8_wayComes_10 : decode cX8_wayComes 10 = .ok (.ifCond .eq 46, 3) := by decide +kernel
theorem dX8_wayComes_13 : decode cX8_wayComes 13 = .ok (.aload_n 0, 1) := by decide +kernel
theorem dX8_wayComes_14 : decode cX8_wayComes 14 = .ok (.aload_n 0, 1) := by decide +kernel
theorem dX8_wayComes_15 : decode cX8_wayComes 15 = .ok (.getfield 34, 3) := by decide +kernel
theorem dX8_wayComes_18 : decode cX8_wayComes 18 = .ok (.iconst 1, 1) := by decide +kernel
theorem dX8_wayComes_19 : decode cX8_wayComes 19 = .ok (.iaload, 1) := by decide +kernel
theorem dX8_wayComes_20 : decode cX8_wayComes 20 = .ok (.invokevirtual 105, 3) := by decide +kernel
theorem dX8_wayComes_23 : decode cX8_wayComes 23 = .ok (.ifCond .eq 33, 3) := by decide +kernel
theorem dX8_wayComes_26 : decode cX8_wayComes 26 = .ok (.aload_n 0, 1) := by decide +kernel
theorem dX8_wayComes_27 : decode cX8_wayComes 27 = .ok (.getfield 34, 3) := by decide +kernel
theorem dX8_wayComes_30 : decode cX8_wayComes 30 = .ok (.iconst 0, 1) := by decide +kernel
theorem dX8_wayComes_31 : decode cX8_wayComes 31 = .ok (.iaload, 1) := by decide +kernel
theorem dX8_wayComes_32 : decode cX8_wayComes 32 = .ok (.aload_n 0, 1) := by decide +kernel
theorem dX8_wayComes_33 : decode cX8_wayComes 33 = .ok (.getfield 34, 3) := by decide +kernel
theorem dX8_wayComes_36 : decode cX8_wayComes 36 = .ok (.iconst 1, 1) := by decide +kernel
theorem dX8_wayComes_37 : decode cX8_wayComes 37 = .ok (.iaload, 1) := by decide +kernel
theorem dX8_wayComes_38 : decode cX8_wayComes 38 = .ok (.if_icmp .eq 18, 3) := by decide +kernel
theorem dX8_wayComes_41 : decode cX8_wayComes 41 = .ok (.aload_n 0, 1) := by decide +kernel
theorem dX8_wayComes_42 : decode cX8_wayComes 42 = .ok (.getfield 34, 3) := by decide +kernel
theorem dX8_wayComes_45 : decode cX8_wayComes 45 = .ok (.iconst 2, 1) := by decide +kernel
theorem dX8_wayComes_46 : decode cX8_wayComes 46 = .ok (.iaload, 1) := by decide +kernel
theorem dX8_wayComes_47 : decode cX8_wayComes 47 = .ok (.iconst 1, 1) := by decide +kernel
theorem dX8_wayComes_48 : decode cX8_wayComes 48 = .ok (.bipush 60, 2) := by decide +kernel
theorem dX8_wayComes_50 : decode cX8_wayComes 50 = .ok (.invokestatic 61, 3) := by decide +kernel
theorem dX8_wayComes_53 : decode cX8_wayComes 53 = .ok (.ifCond .ne 5, 3) := by decide +kernel
theorem dX8_wayComes_56 : decode cX8_wayComes 56 = .ok (.iconst 0, 1) := by decide +kernel
theorem dX8_wayComes_57 : decode cX8_wayComes 57 = .ok (.ireturn, 1) := by decide +kernel
theorem dX8_wayComes_58 : decode cX8_wayComes 58 = .ok (.aload_n 0, 1) := by decide +kernel
theorem dX8_wayComes_59 : decode cX8_wayComes 59 = .ok (.getfield 25, 3) := by decide +kernel
theorem dX8_wayComes_62 : decode cX8_wayComes 62 = .ok (.aload_n 0, 1) := by decide +kernel
theorem dX8_wayComes_63 : decode cX8_wayComes 63 = .ok (.getfield 34, 3) := by decide +kernel
theorem dX8_wayComes_66 : decode cX8_wayComes 66 = .ok (.iconst 0, 1) := by decide +kernel
theorem dX8_wayComes_67 : decode cX8_wayComes 67 = .ok (.iaload, 1) := by decide +kernel
theorem dX8_wayComes_68 : decode cX8_wayComes 68 = .ok (.aaload, 1) := by decide +kernel
theorem dX8_wayComes_69 : decode cX8_wayComes 69 = .ok (.aload_n 0, 1) := by decide +kernel
theorem dX8_wayComes_70 : decode cX8_wayComes 70 = .ok (.getfield 34, 3) := by decide +kernel
theorem dX8_wayComes_73 : decode cX8_wayComes 73 = .ok (.iconst 1, 1) := by decide +kernel
theorem dX8_wayComes_74 : decode cX8_wayComes 74 = .ok (.iaload, 1) := by decide +kernel
theorem dX8_wayComes_75 : decode cX8_wayComes 75 = .ok (.aload_n 0, 1) := by decide +kernel
theorem dX8_wayComes_76 : decode cX8_wayComes 76 = .ok (.getfield 34, 3) := by decide +kernel
theorem dX8_wayComes_79 : decode cX8_wayComes 79 = .ok (.iconst 2, 1) := by decide +kernel
theorem dX8_wayComes_80 : decode cX8_wayComes 80 = .ok (.iaload, 1) := by decide +kernel
theorem dX8_wayComes_81 : decode cX8_wayComes 81 = .ok (.iastore, 1) := by decide +kernel
theorem dX8_wayComes_82 : decode cX8_wayComes 82 = .ok (.aload_n 0, 1) := by decide +kernel
theorem dX8_wayComes_83 : decode cX8_wayComes 83 = .ok (.getfield 25, 3) := by decide +kernel
theorem dX8_wayComes_86 : decode cX8_wayComes 86 = .ok (.aload_n 0, 1) := by decide +kernel
theorem dX8_wayComes_87 : decode cX8_wayComes 87 = .ok (.getfield 34, 3) := by decide +kernel
theorem dX8_wayComes_90 : decode cX8_wayComes 90 = .ok (.iconst 1, 1) := by decide +kernel
theorem dX8_wayComes_91 : decode cX8_wayComes 91 = .ok (.iaload, 1) := by decide +kernel
theorem dX8_wayComes_92 : decode cX8_wayComes 92 = .ok (.aaload, 1) := by decide +kernel
theorem dX8_wayComes_93 : decode cX8_wayComes 93 = .ok (.aload_n 0, 1) := by decide +kernel
theorem dX8_wayComes_94 : decode cX8_wayComes 94 = .ok (.getfield 34, 3) := by decide +kernel
theorem dX8_wayComes_97 : decode cX8_wayComes 97 = .ok (.iconst 0, 1) := by decide +kernel
theorem dX8_wayComes_98 : decode cX8_wayComes 98 = .ok (.iaload, 1) := by decide +kernel
theorem dX8_wayComes_99 : decode cX8_wayComes 99 = .ok (.aload_n 0, 1) := by decide +kernel
theorem dX8_wayComes_100 : decode cX8_wayComes 100 = .ok (.getfield 34, 3) := by decide +kernel
theorem dX8_wayComes_103 : decode cX8_wayComes 103 = .ok (.iconst 2, 1) := by decide +kernel
theorem dX8_wayComes_104 : decode cX8_wayComes 104 = .ok (.iaload, 1) := by decide +kernel
theorem dX8_wayComes_105 : decode cX8_wayComes 105 = .ok (.iastore, 1) := by decide +kernel
theorem dX8_wayComes_106 : decode cX8_wayComes 106 = .ok (.iconst 1, 1) := by decide +kernel
theorem dX8_wayComes_107 : decode cX8_wayComes 107 = .ok (.ireturn, 1) := by decide +kernel
theorem dX8_personComes_0 : decode cX8_personComes 0 = .ok (.aload_n 0, 1) := by decide +kernel
theorem dX8_personComes_1 : decode cX8_personComes 1 = .ok (.aload_n 0, 1) := by decide +kernel
theorem dX8_personComes_2 : decode cX8_personComes 2 = .ok (.getfield 34, 3) := by decide +kernel
theorem dX8_personComes_5 : decode cX8_personComes 5 = .ok (.iconst 0, 1) := by decide +kernel
theorem dX8_personComes_6 : decode cX8_personComes 6 = .ok (.iaload, 1) := by decide +kernel
theorem dX8_personComes_7 : decode cX8_personComes 7 = .ok (.invokevirtual 105, 3) := by decide +kernel
theorem dX8_personComes_10 : decode cX8_personComes 10 = .ok (.ifCond .eq 37, 3) := by decide +kernel
theorem dX8_personComes_13 : decode cX8_personComes 13 = .ok (.aload_n 0, 1) := by decide +kernel
theorem dX8_personComes_14 : decode cX8_personComes 14 = .ok (.aload_n 0, 1) := by decide +kernel
theorem dX8_personComes_15 : decode cX8_personComes 15 = .ok (.getfield 34, 3) := by decide +kernel
theorem dX8_personComes_18 : decode cX8_personComes 18 = .ok (.iconst 1, 1) := by decide +kernel
theorem dX8_personComes_19 : decode cX8_personComes 19 = .ok (.iaload, 1) := by decide +kernel
theorem dX8_personComes_20 : decode cX8_personComes 20 = .ok (.invokevirtual 105, 3) := by decide +kernel
theorem dX8_personComes_23 : decode cX8_personComes 23 = .ok (.ifCond .eq 24, 3) := by decide +kernel
theorem dX8_personComes_26 : decode cX8_personComes 26 = .ok (.aload_n 0, 1) := by decide +kernel
theorem dX8_personComes_27 : decode cX8_personComes 27 = .ok (.getfield 34, 3) := by decide +kernel
theorem dX8_personComes_30 : decode cX8_personComes 30 = .ok (.iconst 2, 1) := by decide +kernel
theorem dX8_personComes_31 : decode cX8_personComes 31 = .ok (.iaload, 1) := by decide +kernel
theorem dX8_personComes_32 : decode cX8_personComes 32 = .ok (.sipush 720, 3) := by decide +kernel
theorem dX8_personComes_35 : decode cX8_personComes 35 = .ok (.if_icmp .gt 12, 3) := by decide +kernel
theorem dX8_personComes_38 : decode cX8_personComes 38 = .ok (.aload_n 0, 1) := by decide +kernel
theorem dX8_personComes_39 : decode cX8_personComes 39 = .ok (.getfield 65, 3) := by decide +kernel
theorem dX8_personComes_42 : decode cX8_personComes 42 = .ok (.bipush 6, 2) := by decide +kernel
theorem dX8_personComes_44 : decode cX8_personComes 44 = .ok (.if_icmp .ne 5, 3) := by decide +kernel
theorem dX8_personComes_47 : decode cX8_personComes 47 = .ok (.iconst 0, 1) := by decide +kernel
theorem dX8_personComes_48 : decode cX8_personComes 48 = .ok (.ireturn, 1) := by decide +kernel
theorem dX8_personComes_49 : decode cX8_personComes 49 = .ok (.aload_n 0, 1) := by decide +kernel
theorem dX8_personComes_50 : decode cX8_personComes 50 = .ok (.getfield 28, 3) := by decide +kernel
theorem dX8_personComes_53 : decode cX8_personComes 53 = .ok (.aload_n 0, 1) := by decide +kernel
theorem dX8_personComes_54 : decode cX8_personComes 54 = .ok (.dup, 1) := by decide +kernel
theorem dX8_personComes_55 : decode cX8_personComes 55 = .ok (.getfield 65, 3) := by decide +kernel
theorem dX8_personComes_58 : decode cX8_personComes 58 = .ok (.dup_x1, 1) := by decide +kernel
theorem dX8_personComes_59 : decode cX8_personComes 59 = .ok (.iconst 1, 1) := by decide +kernel
theorem dX8_personComes_60 : decode cX8_personComes 60 = .ok (.iadd, 1) := by decide +kernel
theorem dX8_personComes_61 : decode cX8_personComes 61 = .ok (.putfield 65, 3) := by decide +kernel
theorem dX8_personComes_64 : decode cX8_personComes 64 = .ok (.aaload, 1) := by decide +kernel
theorem dX8_personComes_65 : decode cX8_personComes 65 = .ok (.astore_n 1, 1) := by decide +kernel
theorem dX8_personComes_66 : decode cX8_personComes 66 = .ok (.iconst 0, 1) := by decide +kernel
theorem dX8_personComes_67 : decode cX8_personComes 67 = .ok (.istore_n 2, 1) := by decide +kernel
theorem dX8_personComes_68 : decode cX8_personComes 68 = .ok (.iload_n 2, 1) := by decide +kernel
theorem dX8_personComes_69 : decode cX8_personComes 69 = .ok (.iconst 5, 1) := by decide +kernel
theorem dX8_personComes_70 : decode cX8_personComes 70 = .ok (.if_icmp .ge 18, 3) := by decide +kernel
theorem dX8_personComes_73 : decode cX8_personComes 73 = .ok (.aload_n 1, 1) := by decide +kernel
theorem dX8_personComes_74 : decode cX8_personComes 74 = .ok (.iload_n 2, 1) := by decide +kernel
theorem dX8_personComes_75 : decode cX8_personComes 75 = .ok (.aload_n 0, 1) := by decide +kernel
theorem dX8_personComes_76 : decode cX8_personComes 76 = .ok (.getfield 34, 3) := by decide +kernel
theorem dX8_personComes_79 : decode cX8_personComes 79 = .ok (.iload_n 2, 1) := by decide +kernel
theorem dX8_personComes_80 : decode cX8_personComes 80 = .ok (.iaload, 1) := by decide +kernel
theorem dX8_personComes_81 : decode cX8_personComes 81 = .ok (.iastore, 1) := by decide +kernel
theorem dX8_personComes_82 : decode cX8_personComes 82 = .ok (.iinc 2 1, 3) := by decide +kernel
theorem dX8_personComes_85 : decode cX8_personComes 85 = .ok (.goto (-17), 3) := by decide +kernel
theorem dX8_personComes_88 : decode cX8_personComes 88 = .ok (.aload_n 1, 1) := by decide +kernel
theorem dX8_personComes_89 : decode cX8_personComes 89 = .ok (.iconst 5, 1) := by decide +kernel
theorem dX8_personComes_90 : decode cX8_personComes 90 = .ok (.aload_n 1, 1) := by decide +kernel
theorem dX8_personComes_91 : decode cX8_personComes 91 = .ok (.iconst 0, 1) := by decide +kernel
theorem dX8_personComes_92 : decode cX8_personComes 92 = .ok (.iaload, 1) := by decide +kernel
theorem dX8_personComes_93 : decode cX8_personComes 93 = .ok (.iastore, 1) := by decide +kernel
theorem dX8_personComes_94 : decode cX8_personComes 94 = .ok (.aload_n 1, 1) := by decide +kernel
theorem dX8_personComes_95 : decode cX8_personComes 95 = .ok (.bipush 6, 2) := by decide +kernel
theorem dX8_personComes_97 : decode cX8_personComes 97 = .ok (.aload_n 1, 1) := by decide +kernel
theorem dX8_personComes_98 : decode cX8_personComes 98 = .ok (.iconst 2, 1) := by decide +kernel
theorem dX8_personComes_99 : decode cX8_personComes 99 = .ok (.iaload, 1) := by decide +kernel
theorem dX8_personComes_100 : decode cX8_personComes 100 = .ok (.iastore, 1) := by decide +kernel
theorem dX8_personComes_101 : decode cX8_personComes 101 = .ok (.iconst 1, 1) := by decide +kernel
theorem dX8_personComes_102 : decode cX8_personComes 102 = .ok (.ireturn, 1) := by decide +kernel
theorem dX8_thingComes_0 : decode cX8_thingComes 0 = .ok (.aload_n 0, 1) := by decide +kernel
theorem dX8_thingComes_1 : decode cX8_thingComes 1 = .ok (.aload_n 0, 1) := by decide +kernel
theorem dX8_thingComes_2 : decode cX8_thingComes 2 = .ok (.getfield 34, 3) := by decide +kernel
theorem dX8_thingComes_5 : decode cX8_thingComes 5 = .ok (.iconst 0, 1) := by decide +kernel
theorem dX8_thingComes_6 : decode cX8_thingComes 6 = .ok (.iaload, 1) := by decide +kernel
theorem dX8_thingComes_7 : decode cX8_thingComes 7 = .ok (.invokevirtual 108, 3) := by decide +kernel
theorem dX8_thingComes_10 : decode cX8_thingComes 10 = .ok (.ifCond .eq 46, 3) := by decide +kernel
theorem dX8_thingComes_13 : decode cX8_thingComes 13 = .ok (.aload_n 0, 1) := by decide +kernel
theorem dX8_thingComes_14 : decode cX8_thingComes 14 = .ok (.aload_n 0, 1) := by decide +kernel
theorem dX8_thingComes_15 : decode cX8_thingComes 15 = .ok (.getfield 34, 3) := by decide +kernel
theorem dX8_thingComes_18 : decode cX8_thingComes 18 = .ok (.iconst 1, 1) := by decide +kernel
theorem dX8_thingComes_19 : decode cX8_thingComes 19 = .ok (.iaload, 1) := by decide +kernel
theorem dX8_thingComes_20 : decode cX8_thingComes 20 = .ok (.invokevirtual 108, 3) := by decide +kernel
theorem dX8_thingComes_23 : decode cX8_thingComes 23 = .ok (.ifCond .eq 33, 3) := by decide +kernel
theorem dX8_thingComes_26 : decode cX8_thingComes 26 = .ok (.aload_n 0, 1) := by decide +kernel
theorem dX8_thingComes_27 : decode cX8_thingComes 27 = .ok (.aload_n 0, 1) := by decide +kernel
theorem dX8_thingComes_28 : decode cX8_thingComes 28 = .ok (.getfield 34, 3) := by decide +kernel
theorem dX8_thingComes_31 : decode cX8_thingComes 31 = .ok (.iconst 2, 1) := by decide +kernel
theorem dX8_thingComes_32 : decode cX8_thingComes 32 = .ok (.iaload, 1) := by decide +kernel
theorem dX8_thingComes_33 : decode cX8_thingComes 33 = .ok (.invokevirtual 105, 3) := by decide +kernel
theorem dX8_thingComes_36 : decode cX8_thingComes 36 = .ok (.ifCond .eq 20, 3) := by decide +kernel
theorem dX8_thingComes_39 : decode cX8_thingComes 39 = .ok (.aload_n 0, 1) := by decide +kernel
theorem dX8_thingComes_40 : decode cX8_thingComes 40 = .ok (.aload_n 0, 1) := by decide +kernel
theorem dX8_thingComes_41 : decode cX8_thingComes 41 = .ok (.getfield 34, 3) := by decide +kernel
theorem dX8_thingComes_44 : decode cX8_thingComes 44 = .ok (.iconst 3, 1) := by decide +kernel
theorem dX8_thingComes_45 : decode cX8_thingComes 45 = .ok (.iaload, 1) := by decide +kernel
theorem dX8_thingComes_46 : decode cX8_thingComes 46 = .ok (.invokevirtual 105, 3) := by decide +kernel
theorem dX8_thingComes_49 : decode cX8_thingComes 49 = .ok (.ifCond .eq 7, 3) := by decide +kernel
theorem dX8_thingComes_52 : decode cX8_thingComes 52 = .ok (.iconst 1, 1) := by decide +kernel
theorem dX8_thingComes_53 : decode cX8_thingComes 53 = .ok (.goto 4, 3) := by decide +kernel
theorem dX8_thingComes_56 : decode cX8_thingComes 56 = .ok (.iconst 0, 1) := by decide +kernel
theorem dX8_thingComes_57 : decode cX8_thingComes 57 = .ok (.istore_n 1, 1) := by decide +kernel
theorem dX8_thingComes_58 : decode cX8_thingComes 58 = .ok (.iload_n 1, 1) := by decide +kernel
theorem dX8_thingComes_59 : decode cX8_thingComes 59 = .ok (.ifCond .eq 22, 3) := by decide +kernel
theorem dX8_thingComes_62 : decode cX8_thingComes 62 = .ok (.aload_n 0, 1) := by decide +kernel
theorem dX8_thingComes_63 : decode cX8_thingComes 63 = .ok (.getfield 34, 3) := by decide +kernel
theorem dX8_thingComes_66 : decode cX8_thingComes 66 = .ok (.iconst 4, 1) := by decide +kernel
theorem dX8_thingComes_67 : decode cX8_thingComes 67 = .ok (.iaload, 1) := by decide +kernel
theorem dX8_thingComes_68 : decode cX8_thingComes 68 = .ok (.iconst 1, 1) := by decide +kernel
theorem dX8_thingComes_69 : decode cX8_thingComes 69 = .ok (.if_icmp .lt 12, 3) := by decide +kernel
theorem dX8_thingComes_72 : decode cX8_thingComes 72 = .ok (.aload_n 0, 1) := by decide +kernel
theorem dX8_thingComes_73 : decode cX8_thingComes 73 = .ok (.getfield 68, 3) := by decide +kernel
theorem dX8_thingComes_76 : decode cX8_thingComes 76 = .ok (.bipush 6, 2) := by decide +kernel
theorem dX8_thingComes_78 : decode cX8_thingComes 78 = .ok (.if_icmp .ne 5, 3) := by decide +kernel
theorem dX8_thingComes_81 : decode cX8_thingComes 81 = .ok (.iconst 0, 1) := by decide +kernel
theorem dX8_thingComes_82 : decode cX8_thingComes 82 = .ok (.ireturn, 1) := by decide +kernel
theorem dX8_thingComes_83 : decode cX8_thingComes 83 = .ok (.aload_n 0, 1) := by decide +kernel
theorem dX8_thingComes_84 : decode cX8_thingComes 84 = .ok (.getfield 31, 3) := by decide +kernel
theorem dX8_thingComes_87 : decode cX8_thingComes 87 = .ok (.aload_n 0, 1) := by decide +kernel
theorem dX8_thingComes_88 : decode cX8_thingComes 88 = .ok (.dup, 1) := by decide +kernel
theorem dX8_thingComes_89 : decode cX8_thingComes 89 = .ok (.getfield 68, 3) := by decide +kernel
theorem dX8_thingComes_92 : decode cX8_thingComes 92 = .ok (.dup_x1, 1) := by decide +kernel
theorem dX8_thingComes_93 : decode cX8_thingComes 93 = .ok (.iconst 1, 1) := by decide +kernel
theorem dX8_thingComes_94 : decode cX8_thingComes 94 = .ok (.iadd, 1) := by decide +kernel
theorem dX8_thingComes_95 : decode cX8_thingComes 95 = .ok (.putfield 68, 3) := by decide +kernel
theorem dX8_thingComes_98 : decode cX8_thingComes 98 = .ok (.aaload, 1) := by decide +kernel
theorem dX8_thingComes_99 : decode cX8_thingComes 99 = .ok (.astore_n 2, 1) := by decide +kernel
theorem dX8_thingComes_100 : decode cX8_thingComes 100 = .ok (.iconst 0, 1) := by decide +kernel
theorem dX8_thingComes_101 : decode cX8_thingComes 101 = .ok (.istore_n 3, 1) := by decide +kernel
theorem dX8_thingComes_102 : decode cX8_thingComes 102 = .ok (.iload_n 3, 1) := by decide +kernel
theorem dX8_thingComes_103 : decode cX8_thingComes 103 = .ok (.bipush 7, 2) := by decide +kernel
theorem dX8_thingComes_105 : decode cX8_thingComes 105 = .ok (.if_icmp .ge 18, 3) := by decide +kernel
theorem dX8_thingComes_108 : decode cX8_thingComes 108 = .ok (.aload_n 2, 1) := by decide +kernel
theorem dX8_thingComes_109 : decode cX8_thingComes 109 = .ok (.iload_n 3, 1) := by decide +kernel
theorem dX8_thingComes_110 : decode cX8_thingComes 110 = .ok (.aload_n 0, 1) := by decide +kernel
theorem dX8_thingComes_111 : decode cX8_thingComes 111 = .ok (.getfield 34, 3) := by decide +kernel
theorem dX8_thingComes_114 : decode cX8_thingComes 114 = .ok (.iload_n 3, 1) := by decide +kernel
theorem dX8_thingComes_115 : decode cX8_thingComes 115 = .ok (.iaload, 1) := by decide +kernel
theorem dX8_thingComes_116 : decode cX8_thingComes 116 = .ok (.iastore, 1) := by decide +kernel
theorem dX8_thingComes_117 : decode cX8_thingComes 117 = .ok (.iinc 3 1, 3) := by decide +kernel
theorem dX8_thingComes_120 : decode cX8_thingComes 120 = .ok (.goto (-18), 3) := by decide +kernel
theorem dX8_thingComes_123 : decode cX8_thingComes 123 = .ok (.aload_n 2, 1) := by decide +kernel
theorem dX8_thingComes_124 : decode cX8_thingComes 124 = .ok (.bipush 7, 2) := by decide +kernel
theorem dX8_thingComes_126 : decode cX8_thingComes 126 = .ok (.aload_n 2, 1) := by decide +kernel
theorem dX8_thingComes_127 : decode cX8_thingComes 127 = .ok (.iconst 2, 1) := by decide +kernel
theorem dX8_thingComes_128 : decode cX8_thingComes 128 = .ok (.iaload, 1) := by decide +kernel
theorem dX8_thingComes_129 : decode cX8_thingComes 129 = .ok (.iastore, 1) := by decide +kernel
theorem dX8_thingComes_130 : decode cX8_thingComes 130 = .ok (.aload_n 2, 1) := by decide +kernel
theorem dX8_thingComes_131 : decode cX8_thingComes 131 = .ok (.bipush 8, 2) := by decide +kernel
theorem dX8_thingComes_133 : decode cX8_thingComes 133 = .ok (.iconst 0, 1) := by decide +kernel
theorem dX8_thingComes_134 : decode cX8_thingComes 134 = .ok (.iastore, 1) := by decide +kernel
theorem dX8_thingComes_135 : decode cX8_thingComes 135 = .ok (.aload_n 2, 1) := by decide +kernel
theorem dX8_thingComes_136 : decode cX8_thingComes 136 = .ok (.bipush 9, 2) := by decide +kernel
theorem dX8_thingComes_138 : decode cX8_thingComes 138 = .ok (.bipush (-9), 2) := by decide +kernel
theorem dX8_thingComes_140 : decode cX8_thingComes 140 = .ok (.iastore, 1) := by decide +kernel
theorem dX8_thingComes_141 : decode cX8_thingComes 141 = .ok (.iconst 1, 1) := by decide +kernel
theorem dX8_thingComes_142 : decode cX8_thingComes 142 = .ok (.ireturn, 1) := by decide +kernel
theorem dX8_comes_0 : decode cX8_comes 0 = .ok (.iload_n 1, 1) := by decide +kernel
theorem dX8_comes_1 : decode cX8_comes 1 = .ok (.lookupswitch 50 #[(110, 35), (112, 45), (119, 40)], 35) := by decide +kernel
theorem dX8_comes_36 : decode cX8_comes 36 = .ok (.aload_n 0, 1) := by decide +kernel
theorem dX8_comes_37 : decode cX8_comes 37 = .ok (.invokevirtual 111, 3) := by decide +kernel
theorem dX8_comes_40 : decode cX8_comes 40 = .ok (.ireturn, 1) := by decide +kernel
theorem dX8_comes_41 : decode cX8_comes 41 = .ok (.aload_n 0, 1) := by decide +kernel
theorem dX8_comes_42 : decode cX8_comes 42 = .ok (.invokevirtual 114, 3) := by decide +kernel
theorem dX8_comes_45 : decode cX8_comes 45 = .ok (.ireturn, 1) := by decide +kernel
theorem dX8_comes_46 : decode cX8_comes 46 = .ok (.aload_n 0, 1) := by decide +kernel
theorem dX8_comes_47 : decode cX8_comes 47 = .ok (.invokevirtual 117, 3) := by decide +kernel
theorem dX8_comes_50 : decode cX8_comes 50 = .ok (.ireturn, 1) := by decide +kernel
theorem dX8_comes_51 : decode cX8_comes 51 = .ok (.aload_n 0, 1) := by decide +kernel
theorem dX8_comes_52 : decode cX8_comes 52 = .ok (.invokevirtual 120, 3) := by decide +kernel
theorem dX8_comes_55 : decode cX8_comes 55 = .ok (.ireturn, 1) := by decide +kernel
theorem dX8_town_0 : decode cX8_town 0 = .ok (.aload_n 0, 1) := by decide +kernel
theorem dX8_town_1 : decode cX8_town 1 = .ok (.invokevirtual 123, 3) := by decide +kernel
theorem dX8_town_4 : decode cX8_town 4 = .ok (.istore_n 1, 1) := by decide +kernel
theorem dX8_town_5 : decode cX8_town 5 = .ok (.iload_n 1, 1) := by decide +kernel
theorem dX8_town_6 : decode cX8_town 6 = .ok (.bipush (-9), 2) := by decide +kernel
theorem dX8_town_8 : decode cX8_town 8 = .ok (.if_icmp .eq 14, 3) := by decide +kernel
theorem dX8_town_11 : decode cX8_town 11 = .ok (.aload_n 0, 1) := by decide +kernel
theorem dX8_town_12 : decode cX8_town 12 = .ok (.iconst 0, 1) := by decide +kernel
theorem dX8_town_13 : decode cX8_town 13 = .ok (.putfield 75, 3) := by decide +kernel
theorem dX8_town_16 : decode cX8_town 16 = .ok (.sipush (-1000), 3) := by decide +kernel
theorem dX8_town_19 : decode cX8_town 19 = .ok (.iload_n 1, 1) := by decide +kernel
theorem dX8_town_20 : decode cX8_town 20 = .ok (.isub, 1) := by decide +kernel
theorem dX8_town_21 : decode cX8_town 21 = .ok (.ireturn, 1) := by decide +kernel
theorem dX8_town_22 : decode cX8_town 22 = .ok (.aload_n 0, 1) := by decide +kernel
theorem dX8_town_23 : decode cX8_town 23 = .ok (.getfield 126, 3) := by decide +kernel
theorem dX8_town_26 : decode cX8_town 26 = .ok (.ifnonnull 14, 3) := by decide +kernel
theorem dX8_town_29 : decode cX8_town 29 = .ok (.aload_n 0, 1) := by decide +kernel
theorem dX8_town_30 : decode cX8_town 30 = .ok (.new 7, 3) := by decide +kernel
theorem dX8_town_33 : decode cX8_town 33 = .ok (.dup, 1) := by decide +kernel
theorem dX8_town_34 : decode cX8_town 34 = .ok (.invokespecial 130, 3) := by decide +kernel
theorem dX8_town_37 : decode cX8_town 37 = .ok (.putfield 126, 3) := by decide +kernel
theorem dX8_town_40 : decode cX8_town 40 = .ok (.aload_n 0, 1) := by decide +kernel
theorem dX8_town_41 : decode cX8_town 41 = .ok (.getfield 126, 3) := by decide +kernel
theorem dX8_town_44 : decode cX8_town 44 = .ok (.aload_n 0, 1) := by decide +kernel
theorem dX8_town_45 : decode cX8_town 45 = .ok (.invokevirtual 131, 3) := by decide +kernel
theorem dX8_town_48 : decode cX8_town 48 = .ok (.iconst 0, 1) := by decide +kernel
theorem dX8_town_49 : decode cX8_town 49 = .ok (.istore_n 2, 1) := by decide +kernel
theorem dX8_town_50 : decode cX8_town 50 = .ok (.aload_n 0, 1) := by decide +kernel
theorem dX8_town_51 : decode cX8_town 51 = .ok (.iconst 0, 1) := by decide +kernel
theorem dX8_town_52 : decode cX8_town 52 = .ok (.putfield 78, 3) := by decide +kernel
theorem dX8_town_55 : decode cX8_town 55 = .ok (.aload_n 0, 1) := by decide +kernel
theorem dX8_town_56 : decode cX8_town 56 = .ok (.getfield 78, 3) := by decide +kernel
theorem dX8_town_59 : decode cX8_town 59 = .ok (.aload_n 0, 1) := by decide +kernel
theorem dX8_town_60 : decode cX8_town 60 = .ok (.getfield 75, 3) := by decide +kernel
theorem dX8_town_63 : decode cX8_town 63 = .ok (.if_icmp .ge 51, 3) := by decide +kernel
theorem dX8_town_66 : decode cX8_town 66 = .ok (.aload_n 0, 1) := by decide +kernel
theorem dX8_town_67 : decode cX8_town 67 = .ok (.getfield 78, 3) := by decide +kernel
theorem dX8_town_70 : decode cX8_town 70 = .ok (.istore_n 3, 1) := by decide +kernel
theorem dX8_town_71 : decode cX8_town 71 = .ok (.aload_n 0, 1) := by decide +kernel
theorem dX8_town_72 : decode cX8_town 72 = .ok (.invokevirtual 98, 3) := by decide +kernel
theorem dX8_town_75 : decode cX8_town 75 = .ok (.pop, 1) := by decide +kernel
theorem dX8_town_76 : decode cX8_town 76 = .ok (.aload_n 0, 1) := by decide +kernel
theorem dX8_town_77 : decode cX8_town 77 = .ok (.aload_n 0, 1) := by decide +kernel
theorem dX8_town_78 : decode cX8_town 78 = .ok (.getfield 9, 3) := by decide +kernel
theorem dX8_town_81 : decode cX8_town 81 = .ok (.iload_n 3, 1) := by decide +kernel
theorem dX8_town_82 : decode cX8_town 82 = .ok (.iaload, 1) := by decide +kernel
theorem dX8_town_83 : decode cX8_town 83 = .ok (.invokevirtual 135, 3) := by decide +kernel
theorem dX8_town_86 : decode cX8_town 86 = .ok (.ifCond .ne 22, 3) := by decide +kernel
theorem dX8_town_89 : decode cX8_town 89 = .ok (.aload_n 0, 1) := by decide +kernel
theorem dX8_town_90 : decode cX8_town 90 = .ok (.aload_n 0, 1) := by decide +kernel
theorem dX8_town_91 : decode cX8_town 91 = .ok (.getfield 126, 3) := by decide +kernel
theorem dX8_town_94 : decode cX8_town 94 = .ok (.invokevirtual 131, 3) := by decide +kernel
theorem dX8_town_97 : decode cX8_town 97 = .ok (.aload_n 0, 1) := by decide +kernel
theorem dX8_town_98 : decode cX8_town 98 = .ok (.iconst 0, 1) := by decide +kernel
theorem dX8_town_99 : decode cX8_town 99 = .ok (.putfield 75, 3) := by decide +kernel
theorem dX8_town_102 : decode cX8_town 102 = .ok (.sipush (-2000), 3) := by decide +kernel
theorem dX8_town_105 : decode cX8_town 105 = .ok (.iload_n 3, 1) := by decide +kernel
theorem dX8_town_106 : decode cX8_town 106 = .ok (.isub, 1) := by decide +kernel
theorem dX8_town_107 : decode cX8_town 107 = .ok (.ireturn, 1) := by decide +kernel
theorem dX8_town_108 : decode cX8_town 108 = .ok (.iinc 2 1, 3) := by decide +kernel
theorem dX8_town_111 : decode cX8_town 111 = .ok (.goto (-56), 3) := by decide +kernel
theorem dX8_town_114 : decode cX8_town 114 = .ok (.aload_n 0, 1) := by decide +kernel
theorem dX8_town_115 : decode cX8_town 115 = .ok (.iconst 0, 1) := by decide +kernel
theorem dX8_town_116 : decode cX8_town 116 = .ok (.putfield 75, 3) := by decide +kernel
theorem dX8_town_119 : decode cX8_town 119 = .ok (.iload_n 2, 1) := by decide +kernel
theorem dX8_town_120 : decode cX8_town 120 = .ok (.ireturn, 1) := by decide +kernel
theorem dX8_findFar_0 : decode cX8_findFar 0 = .ok (.iconst 0, 1) := by decide +kernel
theorem dX8_findFar_1 : decode cX8_findFar 1 = .ok (.istore_n 1, 1) := by decide +kernel
theorem dX8_findFar_2 : decode cX8_findFar 2 = .ok (.iload_n 1, 1) := by decide +kernel
theorem dX8_findFar_3 : decode cX8_findFar 3 = .ok (.aload_n 0, 1) := by decide +kernel
theorem dX8_findFar_4 : decode cX8_findFar 4 = .ok (.getfield 19, 3) := by decide +kernel
theorem dX8_findFar_7 : decode cX8_findFar 7 = .ok (.if_icmp .ge 66, 3) := by decide +kernel
theorem dX8_findFar_10 : decode cX8_findFar 10 = .ok (.iconst 0, 1) := by decide +kernel
theorem dX8_findFar_11 : decode cX8_findFar 11 = .ok (.istore_n 2, 1) := by decide +kernel
theorem dX8_findFar_12 : decode cX8_findFar 12 = .ok (.iload_n 2, 1) := by decide +kernel
theorem dX8_findFar_13 : decode cX8_findFar 13 = .ok (.aload_n 0, 1) := by decide +kernel
theorem dX8_findFar_14 : decode cX8_findFar 14 = .ok (.getfield 19, 3) := by decide +kernel
theorem dX8_findFar_17 : decode cX8_findFar 17 = .ok (.if_icmp .ge 50, 3) := by decide +kernel
theorem dX8_findFar_20 : decode cX8_findFar 20 = .ok (.aload_n 0, 1) := by decide +kernel
theorem dX8_findFar_21 : decode cX8_findFar 21 = .ok (.getfield 37, 3) := by decide +kernel
theorem dX8_findFar_24 : decode cX8_findFar 24 = .ok (.iload_n 1, 1) := by decide +kernel
theorem dX8_findFar_25 : decode cX8_findFar 25 = .ok (.aaload, 1) := by decide +kernel
theorem dX8_findFar_26 : decode cX8_findFar 26 = .ok (.iload_n 2, 1) := by decide +kernel
theorem dX8_findFar_27 : decode cX8_findFar 27 = .ok (.iload_n 1, 1) := by decide +kernel
theorem dX8_findFar_28 : decode cX8_findFar 28 = .ok (.iload_n 2, 1) := by decide +kernel
theorem dX8_findFar_29 : decode cX8_findFar 29 = .ok (.if_icmp .ne 7, 3) := by decide +kernel
theorem dX8_findFar_32 : decode cX8_findFar 32 = .ok (.iconst 0, 1) := by decide +kernel
theorem dX8_findFar_33 : decode cX8_findFar 33 = .ok (.goto 27, 3) := by decide +kernel
theorem dX8_findFar_36 : decode cX8_findFar 36 = .ok (.aload_n 0, 1) := by decide +kernel
theorem dX8_findFar_37 : decode cX8_findFar 37 = .ok (.getfield 25, 3) := by decide +kernel
theorem dX8_findFar_40 : decode cX8_findFar 40 = .ok (.iload_n 1, 1) := by decide +kernel
theorem dX8_findFar_41 : decode cX8_findFar 41 = .ok (.aaload, 1) := by decide +kernel
theorem dX8_findFar_42 : decode cX8_findFar 42 = .ok (.iload_n 2, 1) := by decide +kernel
theorem dX8_findFar_43 : decode cX8_findFar 43 = .ok (.iaload, 1) := by decide +kernel
theorem dX8_findFar_44 : decode cX8_findFar 44 = .ok (.ifCond .le 14, 3) := by decide +kernel
theorem dX8_findFar_47 : decode cX8_findFar 47 = .ok (.aload_n 0, 1) := by decide +kernel
theorem dX8_findFar_48 : decode cX8_findFar 48 = .ok (.getfield 25, 3) := by decide +kernel
theorem dX8_findFar_51 : decode cX8_findFar 51 = .ok (.iload_n 1, 1) := by decide +kernel
theorem dX8_findFar_52 : decode cX8_findFar 52 = .ok (.aaload, 1) := by decide +kernel
theorem dX8_findFar_53 : decode cX8_findFar 53 = .ok (.iload_n 2, 1) := by decide +kernel
theorem dX8_findFar_54 : decode cX8_findFar 54 = .ok (.iaload, 1) := by decide +kernel
theorem dX8_findFar_55 : decode cX8_findFar 55 = .ok (.goto 5, 3) := by decide +kernel
theorem dX8_findFar_58 : decode cX8_findFar 58 = .ok (.ldc 138, 2) := by decide +kernel
theorem dX8_findFar_60 : decode cX8_findFar 60 = .ok (.iastore, 1) := by decide +kernel
theorem dX8_findFar_61 : decode cX8_findFar 61 = .ok (.iinc 2 1, 3) := by decide +kernel
theorem dX8_findFar_64 : decode cX8_findFar 64 = .ok (.goto (-52), 3) := by decide +kernel
theorem dX8_findFar_67 : decode cX8_findFar 67 = .ok (.iinc 1 1, 3) := by decide +kernel
theorem dX8_findFar_70 : decode cX8_findFar 70 = .ok (.goto (-68), 3) := by decide +kernel
theorem dX8_findFar_73 : decode cX8_findFar 73 = .ok (.iconst 0, 1) := by decide +kernel
theorem dX8_findFar_74 : decode cX8_findFar 74 = .ok (.istore_n 1, 1) := by decide +kernel
theorem dX8_findFar_75 : decode cX8_findFar 75 = .ok (.iload_n 1, 1) := by decide +kernel
theorem dX8_findFar_76 : decode cX8_findFar 76 = .ok (.aload_n 0, 1) := by decide +kernel
theorem dX8_findFar_77 : decode cX8_findFar 77 = .ok (.getfield 19, 3) := by decide +kernel
theorem dX8_findFar_80 : decode cX8_findFar 80 = .ok (.if_icmp .ge 94, 3) := by decide +kernel
theorem dX8_findFar_83 : decode cX8_findFar 83 = .ok (.iconst 0, 1) := by decide +kernel
theorem dX8_findFar_84 : decode cX8_findFar 84 = .ok (.istore_n 2, 1) := by decide +kernel
theorem dX8_findFar_85 : decode cX8_findFar 85 = .ok (.iload_n 2, 1) := by decide +kernel
theorem dX8_findFar_86 : decode cX8_findFar 86 = .ok (.aload_n 0, 1) := by decide +kernel
theorem dX8_findFar_87 : decode cX8_findFar 87 = .ok (.getfield 19, 3) := by decide +kernel
theorem dX8_findFar_90 : decode cX8_findFar 90 = .ok (.if_icmp .ge 78, 3) := by decide +kernel
theorem dX8_findFar_93 : decode cX8_findFar 93 = .ok (.iconst 0, 1) := by decide +kernel
theorem dX8_findFar_94 : decode cX8_findFar 94 = .ok (.istore_n 3, 1) := by decide +kernel
theorem dX8_findFar_95 : decode cX8_findFar 95 = .ok (.iload_n 3, 1) := by decide +kernel
theorem dX8_findFar_96 : decode cX8_findFar 96 = .ok (.aload_n 0, 1) := by decide +kernel
theorem dX8_findFar_97 : decode cX8_findFar 97 = .ok (.getfield 19, 3) := by decide +kernel
theorem dX8_findFar_100 : decode cX8_findFar 100 = .ok (.if_icmp .ge 62, 3) := by decide +kernel
theorem dX8_findFar_103 : decode cX8_findFar 103 = .ok (.aload_n 0, 1) := by decide +kernel
theorem dX8_findFar_104 : decode cX8_findFar 104 = .ok (.getfield 37, 3) := by decide +kernel
theorem dX8_findFar_107 : decode cX8_findFar 107 = .ok (.iload_n 2, 1) := by decide +kernel
theorem dX8_findFar_108 : decode cX8_findFar 108 = .ok (.aaload, 1) := by decide +kernel
theorem dX8_findFar_109 : decode cX8_findFar 109 = .ok (.iload_n 1, 1) := by decide +kernel
theorem dX8_findFar_110 : decode cX8_findFar 110 = .ok (.iaload, 1) := by decide +kernel
theorem dX8_findFar_111 : decode cX8_findFar 111 = .ok (.aload_n 0, 1) := by decide +kernel
theorem dX8_findFar_112 : decode cX8_findFar 112 = .ok (.getfield 37, 3) := by decide +kernel
theorem dX8_findFar_115 : decode cX8_findFar 115 = .ok (.iload_n 1, 1) := by decide +kernel
theorem dX8_findFar_116 : decode cX8_findFar 116 = .ok (.aaload, 1) := by decide +kernel
theorem dX8_findFar_117 : decode cX8_findFar 117 = .ok (.iload_n 3, 1) := by decide +kernel
theorem dX8_findFar_118 : decode cX8_findFar 118 = .ok (.iaload, 1) := by decide +kernel
theorem dX8_findFar_119 : decode cX8_findFar 119 = .ok (.iadd, 1) := by decide +kernel
theorem dX8_findFar_120 : decode cX8_findFar 120 = .ok (.istore 4, 2) := by decide +kernel
theorem dX8_findFar_122 : decode cX8_findFar 122 = .ok (.aload_n 0, 1) := by decide +kernel
theorem dX8_findFar_123 : decode cX8_findFar 123 = .ok (.getfield 37, 3) := by decide +kernel
theorem dX8_findFar_126 : decode cX8_findFar 126 = .ok (.iload_n 2, 1) := by decide +kernel
theorem dX8_findFar_127 : decode cX8_findFar 127 = .ok (.aaload, 1) := by decide +kernel
theorem dX8_findFar_128 : decode cX8_findFar 128 = .ok (.iload_n 3, 1) := by decide +kernel
theorem dX8_findFar_129 : decode cX8_findFar 129 = .ok (.iload 4, 2) := by decide +kernel
theorem dX8_findFar_131 : decode cX8_findFar 131 = .ok (.aload_n 0, 1) := by decide +kernel
theorem dX8_findFar_132 : decode cX8_findFar 132 = .ok (.getfield 37, 3) := by decide +kernel
theorem dX8_findFar_135 : decode cX8_findFar 135 = .ok (.iload_n 2, 1) := by decide +kernel
theorem dX8_findFar_136 : decode cX8_findFar 136 = .ok (.aaload, 1) := by decide +kernel
theorem dX8_findFar_137 : decode cX8_findFar 137 = .ok (.iload_n 3, 1) := by decide +kernel
theorem dX8_findFar_138 : decode cX8_findFar 138 = .ok (.iaload, 1) := by decide +kernel
theorem dX8_findFar_139 : decode cX8_findFar 139 = .ok (.if_icmp .ge 8, 3) := by decide +kernel
theorem dX8_findFar_142 : decode cX8_findFar 142 = .ok (.iload 4, 2) := by decide +kernel
theorem dX8_findFar_144 : decode cX8_findFar 144 = .ok (.goto 11, 3) := by decide +kernel
theorem dX8_findFar_147 : decode cX8_findFar 147 = .ok (.aload_n 0, 1) := by decide +kernel
theorem dX8_findFar_148 : decode cX8_findFar 148 = .ok (.getfield 37, 3) := by decide +kernel
theorem dX8_findFar_151 : decode cX8_findFar 151 = .ok (.iload_n 2, 1) := by decide +kernel
theorem dX8_findFar_152 : decode cX8_findFar 152 = .ok (.aaload, 1) := by decide +kernel
theorem dX8_findFar_153 : decode cX8_findFar 153 = .ok (.iload_n 3, 1) := by decide +kernel
theorem dX8_findFar_154 : decode cX8_findFar 154 = .ok (.iaload, 1) := by decide +kernel
theorem dX8_findFar_155 : decode cX8_findFar 155 = .ok (.iastore, 1) := by decide +kernel
theorem dX8_findFar_156 : decode cX8_findFar 156 = .ok (.iinc 3 1, 3) := by decide +kernel
theorem dX8_findFar_159 : decode cX8_findFar 159 = .ok (.goto (-64), 3) := by decide +kernel
theorem dX8_findFar_162 : decode cX8_findFar 162 = .ok (.iinc 2 1, 3) := by decide +kernel
theorem dX8_findFar_165 : decode cX8_findFar 165 = .ok (.goto (-80), 3) := by decide +kernel
theorem dX8_findFar_168 : decode cX8_findFar 168 = .ok (.iinc 1 1, 3) := by decide +kernel
theorem dX8_findFar_171 : decode cX8_findFar 171 = .ok (.goto (-96), 3) := by decide +kernel
theorem dX8_findFar_174 : decode cX8_findFar 174 = .ok (.return_, 1) := by decide +kernel
theorem dX8_minutes_0 : decode cX8_minutes 0 = .ok (.aload_n 0, 1) := by decide +kernel
theorem dX8_minutes_1 : decode cX8_minutes 1 = .ok (.iload_n 1, 1) := by decide +kernel
theorem dX8_minutes_2 : decode cX8_minutes 2 = .ok (.invokevirtual 105, 3) := by decide +kernel
theorem dX8_minutes_5 : decode cX8_minutes 5 = .ok (.ifCond .eq 11, 3) := by decide +kernel
theorem dX8_minutes_8 : decode cX8_minutes 8 = .ok (.aload_n 0, 1) := by decide +kernel
theorem dX8_minutes_9 : decode cX8_minutes 9 = .ok (.iload_n 2, 1) := by decide +kernel
theorem dX8_minutes_10 : decode cX8_minutes 10 = .ok (.invokevirtual 105, 3) := by decide +kernel
theorem dX8_minutes_13 : decode cX8_minutes 13 = .ok (.ifCond .ne 9, 3) := by decide +kernel
theorem dX8_minutes_16 : decode cX8_minutes 16 = .ok (.aload_n 0, 1) := by decide +kernel
theorem dX8_minutes_17 : decode cX8_minutes 17 = .ok (.iconst (-1), 1) := by decide +kernel
theorem dX8_minutes_18 : decode cX8_minutes 18 = .ok (.invokevirtual 71, 3) := by decide +kernel
theorem dX8_minutes_21 : decode cX8_minutes 21 = .ok (.ireturn, 1) := by decide +kernel
theorem dX8_minutes_22 : decode cX8_minutes 22 = .ok (.aload_n 0, 1) := by decide +kernel
theorem dX8_minutes_23 : decode cX8_minutes 23 = .ok (.invokevirtual 139, 3) := by decide +kernel
theorem dX8_minutes_26 : decode cX8_minutes 26 = .ok (.aload_n 0, 1) := by decide +kernel
theorem dX8_minutes_27 : decode cX8_minutes 27 = .ok (.getfield 37, 3) := by decide +kernel
theorem dX8_minutes_30 : decode cX8_minutes 30 = .ok (.iload_n 1, 1) := by decide +kernel
theorem dX8_minutes_31 : decode cX8_minutes 31 = .ok (.aaload, 1) := by decide +kernel
theorem dX8_minutes_32 : decode cX8_minutes 32 = .ok (.iload_n 2, 1) := by decide +kernel
theorem dX8_minutes_33 : decode cX8_minutes 33 = .ok (.iaload, 1) := by decide +kernel
theorem dX8_minutes_34 : decode cX8_minutes 34 = .ok (.ldc 138, 2) := by decide +kernel
theorem dX8_minutes_36 : decode cX8_minutes 36 = .ok (.if_icmp .ge 14, 3) := by decide +kernel
theorem dX8_minutes_39 : decode cX8_minutes 39 = .ok (.aload_n 0, 1) := by decide +kernel
theorem dX8_minutes_40 : decode cX8_minutes 40 = .ok (.getfield 37, 3) := by decide +kernel
theorem dX8_minutes_43 : decode cX8_minutes 43 = .ok (.iload_n 1, 1) := by decide +kernel
theorem dX8_minutes_44 : decode cX8_minutes 44 = .ok (.aaload, 1) := by decide +kernel
theorem dX8_minutes_45 : decode cX8_minutes 45 = .ok (.iload_n 2, 1) := by decide +kernel
theorem dX8_minutes_46 : decode cX8_minutes 46 = .ok (.iaload, 1) := by decide +kernel
theorem dX8_minutes_47 : decode cX8_minutes 47 = .ok (.goto 5, 3) := by decide +kernel
theorem dX8_minutes_50 : decode cX8_minutes 50 = .ok (.bipush (-9), 2) := by decide +kernel
theorem dX8_minutes_52 : decode cX8_minutes 52 = .ok (.ireturn, 1) := by decide +kernel
theorem dX8_person_0 : decode cX8_person 0 = .ok (.aload_n 0, 1) := by decide +kernel
theorem dX8_person_1 : decode cX8_person 1 = .ok (.iload_n 1, 1) := by decide +kernel
theorem dX8_person_2 : decode cX8_person 2 = .ok (.invokevirtual 108, 3) := by decide +kernel
theorem dX8_person_5 : decode cX8_person 5 = .ok (.ifCond .ne 9, 3) := by decide +kernel
theorem dX8_person_8 : decode cX8_person 8 = .ok (.aload_n 0, 1) := by decide +kernel
theorem dX8_person_9 : decode cX8_person 9 = .ok (.iconst (-1), 1) := by decide +kernel
theorem dX8_person_10 : decode cX8_person 10 = .ok (.invokevirtual 71, 3) := by decide +kernel
theorem dX8_person_13 : decode cX8_person 13 = .ok (.ireturn, 1) := by decide +kernel
theorem dX8_person_14 : decode cX8_person 14 = .ok (.iload_n 2, 1) := by decide +kernel
theorem dX8_person_15 : decode cX8_person 15 = .ok (.iconst 0, 1) := by decide +kernel
theorem dX8_person_16 : decode cX8_person 16 = .ok (.bipush 7, 2) := by decide +kernel
theorem dX8_person_18 : decode cX8_person 18 = .ok (.invokestatic 61, 3) := by decide +kernel
theorem dX8_person_21 : decode cX8_person 21 = .ok (.ifCond .ne 10, 3) := by decide +kernel
theorem dX8_person_24 : decode cX8_person 24 = .ok (.aload_n 0, 1) := by decide +kernel
theorem dX8_person_25 : decode cX8_person 25 = .ok (.bipush (-2), 2) := by decide +kernel
theorem dX8_person_27 : decode cX8_person 27 = .ok (.invokevirtual 71, 3) := by decide +kernel
theorem dX8_person_30 : decode cX8_person 30 = .ok (.ireturn, 1) := by decide +kernel
theorem dX8_person_31 : decode cX8_person 31 = .ok (.iload_n 2, 1) := by decide +kernel
theorem dX8_person_32 : decode cX8_person 32 = .ok (.bipush 7, 2) := by decide +kernel
theorem dX8_person_34 : decode cX8_person 34 = .ok (.if_icmp .ge 14, 3) := by decide +kernel
theorem dX8_person_37 : decode cX8_person 37 = .ok (.aload_n 0, 1) := by decide +kernel
theorem dX8_person_38 : decode cX8_person 38 = .ok (.getfield 28, 3) := by decide +kernel
theorem dX8_person_41 : decode cX8_person 41 = .ok (.iload_n 1, 1) := by decide +kernel
theorem dX8_person_42 : decode cX8_person 42 = .ok (.aaload, 1) := by decide +kernel
theorem dX8_person_43 : decode cX8_person 43 = .ok (.iload_n 2, 1) := by decide +kernel
theorem dX8_person_44 : decode cX8_person 44 = .ok (.iaload, 1) := by decide +kernel
theorem dX8_person_45 : decode cX8_person 45 = .ok (.goto 8, 3) := by decide +kernel
theorem dX8_person_48 : decode cX8_person 48 = .ok (.aload_n 0, 1) := by decide +kernel
theorem dX8_person_49 : decode cX8_person 49 = .ok (.iload_n 1, 1) := by decide +kernel
theorem dX8_person_50 : decode cX8_person 50 = .ok (.invokevirtual 142, 3) := by decide +kernel
theorem dX8_person_53 : decode cX8_person 53 = .ok (.ireturn, 1) := by decide +kernel
theorem dX8_carriedBy_0 : decode cX8_carriedBy 0 = .ok (.iconst 0, 1) := by decide +kernel
theorem dX8_carriedBy_1 : decode cX8_carriedBy 1 = .ok (.istore_n 2, 1) := by decide +kernel
theorem dX8_carriedBy_2 : decode cX8_carriedBy 2 = .ok (.iconst 0, 1) := by decide +kernel
theorem dX8_carriedBy_3 : decode cX8_carriedBy 3 = .ok (.istore_n 3, 1) := by decide +kernel
theorem dX8_carriedBy_4 : decode cX8_carriedBy 4 = .ok (.iload_n 3, 1) := by decide +kernel
theorem dX8_carriedBy_5 : decode cX8_carriedBy 5 = .ok (.aload_n 0, 1) := by decide +kernel
theorem dX8_carriedBy_6 : decode cX8_carriedBy 6 = .ok (.getfield 68, 3) := by decide +kernel
theorem dX8_carriedBy_9 : decode cX8_carriedBy 9 = .ok (.if_icmp .ge 35, 3) := by decide +kernel
theorem dX8_carriedBy_12 : decode cX8_carriedBy 12 = .ok (.iload_n 2, 1) := by decide +kernel
theorem dX8_carriedBy_13 : decode cX8_carriedBy 13 = .ok (.aload_n 0, 1) := by decide +kernel
theorem dX8_carriedBy_14 : decode cX8_carriedBy 14 = .ok (.getfield 31, 3) := by decide +kernel
theorem dX8_carriedBy_17 : decode cX8_carriedBy 17 = .ok (.iload_n 3, 1) := by decide +kernel
theorem dX8_carriedBy_18 : decode cX8_carriedBy 18 = .ok (.aaload, 1) := by decide +kernel
theorem dX8_carriedBy_19 : decode cX8_carriedBy 19 = .ok (.bipush 7, 2) := by decide +kernel
theorem dX8_carriedBy_21 : decode cX8_carriedBy 21 = .ok (.iaload, 1) := by decide +kernel
theorem dX8_carriedBy_22 : decode cX8_carriedBy 22 = .ok (.bipush 10, 2) := by decide +kernel
theorem dX8_carriedBy_24 : decode cX8_carriedBy 24 = .ok (.iload_n 1, 1) := by decide +kernel
theorem dX8_carriedBy_25 : decode cX8_carriedBy 25 = .ok (.iadd, 1) := by decide +kernel
theorem dX8_carriedBy_26 : decode cX8_carriedBy 26 = .ok (.if_icmp .ne 9, 3) := by decide +kernel
theorem dX8_carriedBy_29 : decode cX8_carriedBy 29 = .ok (.iconst 1, 1) := by decide +kernel
theorem dX8_carriedBy_30 : decode cX8_carriedBy 30 = .ok (.iload_n 3, 1) := by decide +kernel
theorem dX8_carriedBy_31 : decode cX8_carriedBy 31 = .ok (.ishl, 1) := by decide +kernel
theorem dX8_carriedBy_32 : decode cX8_carriedBy 32 = .ok (.goto 4, 3) := by decide +kernel
theorem dX8_carriedBy_35 : decode cX8_carriedBy 35 = .ok (.iconst 0, 1) := by decide +kernel
theorem dX8_carriedBy_36 : decode cX8_carriedBy 36 = .ok (.ior, 1) := by decide +kernel
theorem dX8_carriedBy_37 : decode cX8_carriedBy 37 = .ok (.istore_n 2, 1) := by decide +kernel
theorem dX8_carriedBy_38 : decode cX8_carriedBy 38 = .ok (.iinc 3 1, 3) := by decide +kernel
theorem dX8_carriedBy_41 : decode cX8_carriedBy 41 = .ok (.goto (-37), 3) := by decide +kernel
theorem dX8_carriedBy_44 : decode cX8_carriedBy 44 = .ok (.iload_n 2, 1) := by decide +kernel
theorem dX8_carriedBy_45 : decode cX8_carriedBy 45 = .ok (.ireturn, 1) := by decide +kernel
theorem dX8_thing_0 : decode cX8_thing 0 = .ok (.aload_n 0, 1) := by decide +kernel
theorem dX8_thing_1 : decode cX8_thing 1 = .ok (.iload_n 1, 1) := by decide +kernel
theorem dX8_thing_2 : decode cX8_thing 2 = .ok (.invokevirtual 145, 3) := by decide +kernel
theorem dX8_thing_5 : decode cX8_thing 5 = .ok (.ifCond .ne 9, 3) := by decide +kernel
theorem dX8_thing_8 : decode cX8_thing 8 = .ok (.aload_n 0, 1) := by decide +kernel
theorem dX8_thing_9 : decode cX8_thing 9 = .ok (.iconst (-1), 1) := by decide +kernel
theorem dX8_thing_10 : decode cX8_thing 10 = .ok (.invokevirtual 71, 3) := by decide +kernel
theorem dX8_thing_13 : decode cX8_thing 13 = .ok (.ireturn, 1) := by decide +kernel
theorem dX8_thing_14 : decode cX8_thing 14 = .ok (.iload_n 2, 1) := by decide +kernel
theorem dX8_thing_15 : decode cX8_thing 15 = .ok (.iconst 0, 1) := by decide +kernel
theorem dX8_thing_16 : decode cX8_thing 16 = .ok (.bipush 9, 2) := by decide +kernel
theorem dX8_thing_18 : decode cX8_thing 18 = .ok (.invokestatic 61, 3) := by decide +kernel
theorem dX8_thing_21 : decode cX8_thing 21 = .ok (.ifCond .eq 14, 3) := by decide +kernel
theorem dX8_thing_24 : decode cX8_thing 24 = .ok (.aload_n 0, 1) := by decide +kernel
theorem dX8_thing_25 : decode cX8_thing 25 = .ok (.getfield 31, 3) := by decide +kernel
theorem dX8_thing_28 : decode cX8_thing 28 = .ok (.iload_n 1, 1) := by decide +kernel
theorem dX8_thing_29 : decode cX8_thing 29 = .ok (.aaload, 1) := by decide +kernel
theorem dX8_thing_30 : decode cX8_thing 30 = .ok (.iload_n 2, 1) := by decide +kernel
theorem dX8_thing_31 : decode cX8_thing 31 = .ok (.iaload, 1) := by decide +kernel
theorem dX8_thing_32 : decode cX8_thing 32 = .ok (.goto 9, 3) := by decide +kernel
theorem dX8_thing_35 : decode cX8_thing 35 = .ok (.aload_n 0, 1) := by decide +kernel
theorem dX8_thing_36 : decode cX8_thing 36 = .ok (.bipush (-2), 2) := by decide +kernel
theorem dX8_thing_38 : decode cX8_thing 38 = .ok (.invokevirtual 71, 3) := by decide +kernel
theorem dX8_thing_41 : decode cX8_thing 41 = .ok (.ireturn, 1) := by decide +kernel
theorem dX8_law_0 : decode cX8_law 0 = .ok (.iload_n 1, 1) := by decide +kernel
theorem dX8_law_1 : decode cX8_law 1 = .ok (.iconst 0, 1) := by decide +kernel
theorem dX8_law_2 : decode cX8_law 2 = .ok (.iconst 4, 1) := by decide +kernel
theorem dX8_law_3 : decode cX8_law 3 = .ok (.invokestatic 61, 3) := by decide +kernel
theorem dX8_law_6 : decode cX8_law 6 = .ok (.ifCond .ne 10, 3) := by decide +kernel
theorem dX8_law_9 : decode cX8_law 9 = .ok (.aload_n 0, 1) := by decide +kernel
theorem dX8_law_10 : decode cX8_law 10 = .ok (.bipush (-2), 2) := by decide +kernel
theorem dX8_law_12 : decode cX8_law 12 = .ok (.invokevirtual 71, 3) := by decide +kernel
theorem dX8_law_15 : decode cX8_law 15 = .ok (.ireturn, 1) := by decide +kernel
theorem dX8_law_16 : decode cX8_law 16 = .ok (.aload_n 0, 1) := by decide +kernel
theorem dX8_law_17 : decode cX8_law 17 = .ok (.getfield 148, 3) := by decide +kernel
theorem dX8_law_20 : decode cX8_law 20 = .ok (.istore_n 2, 1) := by decide +kernel
theorem dX8_law_21 : decode cX8_law 21 = .ok (.aload_n 0, 1) := by decide +kernel
theorem dX8_law_22 : decode cX8_law 22 = .ok (.iload_n 1, 1) := by decide +kernel
theorem dX8_law_23 : decode cX8_law 23 = .ok (.putfield 148, 3) := by decide +kernel
theorem dX8_law_26 : decode cX8_law 26 = .ok (.iload_n 2, 1) := by decide +kernel
theorem dX8_law_27 : decode cX8_law 27 = .ok (.ireturn, 1) := by decide +kernel
theorem dX8_isOwner_0 : decode cX8_isOwner 0 = .ok (.aload_n 0, 1) := by decide +kernel
theorem dX8_isOwner_1 : decode cX8_isOwner 1 = .ok (.getfield 31, 3) := by decide +kernel
theorem dX8_isOwner_4 : decode cX8_isOwner 4 = .ok (.iload_n 2, 1) := by decide +kernel
theorem dX8_isOwner_5 : decode cX8_isOwner 5 = .ok (.aaload, 1) := by decide +kernel
theorem dX8_isOwner_6 : decode cX8_isOwner 6 = .ok (.iconst 0, 1) := by decide +kernel
theorem dX8_isOwner_7 : decode cX8_isOwner 7 = .ok (.iaload, 1) := by decide +kernel
theorem dX8_isOwner_8 : decode cX8_isOwner 8 = .ok (.iload_n 1, 1) := by decide +kernel
theorem dX8_isOwner_9 : decode cX8_isOwner 9 = .ok (.if_icmp .eq 15, 3) := by decide +kernel
theorem dX8_isOwner_12 : decode cX8_isOwner 12 = .ok (.aload_n 0, 1) := by decide +kernel
theorem dX8_isOwner_13 : decode cX8_isOwner 13 = .ok (.getfield 31, 3) := by decide +kernel
theorem dX8_isOwner_16 : decode cX8_isOwner 16 = .ok (.iload_n 2, 1) := by decide +kernel
theorem dX8_isOwner_17 : decode cX8_isOwner 17 = .ok (.aaload, 1) := by decide +kernel
theorem dX8_isOwner_18 : decode cX8_isOwner 18 = .ok (.iconst 1, 1) := by decide +kernel
theorem dX8_isOwner_19 : decode cX8_isOwner 19 = .ok (.iaload, 1) := by decide +kernel
theorem dX8_isOwner_20 : decode cX8_isOwner 20 = .ok (.iload_n 1, 1) := by decide +kernel
theorem dX8_isOwner_21 : decode cX8_isOwner 21 = .ok (.if_icmp .ne 7, 3) := by decide +kernel
theorem dX8_isOwner_24 : decode cX8_isOwner 24 = .ok (.iconst 1, 1) := by decide +kernel
theorem dX8_isOwner_25 : decode cX8_isOwner 25 = .ok (.goto 4, 3) := by decide +kernel
theorem dX8_isOwner_28 : decode cX8_isOwner 28 = .ok (.iconst 0, 1) := by decide +kernel
theorem dX8_isOwner_29 : decode cX8_isOwner 29 = .ok (.ireturn, 1) := by decide +kernel
theorem dX8_isKin_0 : decode cX8_isKin 0 = .ok (.aload_n 0, 1) := by decide +kernel
theorem dX8_isKin_1 : decode cX8_isKin 1 = .ok (.getfield 28, 3) := by decide +kernel
theorem dX8_isKin_4 : decode cX8_isKin 4 = .ok (.iload_n 1, 1) := by decide +kernel
theorem dX8_isKin_5 : decode cX8_isKin 5 = .ok (.aaload, 1) := by decide +kernel
theorem dX8_isKin_6 : decode cX8_isKin 6 = .ok (.iconst 3, 1) := by decide +kernel
theorem dX8_isKin_7 : decode cX8_isKin 7 = .ok (.iaload, 1) := by decide +kernel
theorem dX8_isKin_8 : decode cX8_isKin 8 = .ok (.istore_n 3, 1) := by decide +kernel
theorem dX8_isKin_9 : decode cX8_isKin 9 = .ok (.iload_n 3, 1) := by decide +kernel
theorem dX8_isKin_10 : decode cX8_isKin 10 = .ok (.ifCond .eq 45, 3) := by decide +kernel
theorem dX8_isKin_13 : decode cX8_isKin 13 = .ok (.aload_n 0, 1) := by decide +kernel
theorem dX8_isKin_14 : decode cX8_isKin 14 = .ok (.getfield 28, 3) := by decide +kernel
theorem dX8_isKin_17 : decode cX8_isKin 17 = .ok (.aload_n 0, 1) := by decide +kernel
theorem dX8_isKin_18 : decode cX8_isKin 18 = .ok (.getfield 31, 3) := by decide +kernel
theorem dX8_isKin_21 : decode cX8_isKin 21 = .ok (.iload_n 2, 1) := by decide +kernel
theorem dX8_isKin_22 : decode cX8_isKin 22 = .ok (.aaload, 1) := by decide +kernel
theorem dX8_isKin_23 : decode cX8_isKin 23 = .ok (.iconst 0, 1) := by decide +kernel
theorem dX8_isKin_24 : decode cX8_isKin 24 = .ok (.iaload, 1) := by decide +kernel
theorem dX8_isKin_25 : decode cX8_isKin 25 = .ok (.aaload, 1) := by decide +kernel
theorem dX8_isKin_26 : decode cX8_isKin 26 = .ok (.iconst 3, 1) := by decide +kernel
theorem dX8_isKin_27 : decode cX8_isKin 27 = .ok (.iaload, 1) := by decide +kernel
theorem dX8_isKin_28 : decode cX8_isKin 28 = .ok (.iload_n 3, 1) := by decide +kernel
theorem dX8_isKin_29 : decode cX8_isKin 29 = .ok (.if_icmp .eq 22, 3) := by decide +kernel
theorem dX8_isKin_32 : decode cX8_isKin 32 = .ok (.aload_n 0, 1) := by decide +kernel
theorem dX8_isKin_33 : decode cX8_isKin 33 = .ok (.getfield 28, 3) := by decide +kernel
theorem dX8_isKin_36 : decode cX8_isKin 36 = .ok (.aload_n 0, 1) := by decide +kernel
theorem dX8_isKin_37 : decode cX8_isKin 37 = .ok (.getfield 31, 3) := by decide +kernel
theorem dX8_isKin_40 : decode cX8_isKin 40 = .ok (.iload_n 2, 1) := by decide +kernel
theorem dX8_isKin_41 : decode cX8_isKin 41 = .ok (.aaload, 1) := by decide +kernel
theorem dX8_isKin_42 : decode cX8_isKin 42 = .ok (.iconst 1, 1) := by decide +kernel
theorem dX8_isKin_43 : decode cX8_isKin 43 = .ok (.iaload, 1) := by decide +kernel
theorem dX8_isKin_44 : decode cX8_isKin 44 = .ok (.aaload, 1) := by decide +kernel
theorem dX8_isKin_45 : decode cX8_isKin 45 = .ok (.iconst 3, 1) := by decide +kernel
theorem dX8_isKin_46 : decode cX8_isKin 46 = .ok (.iaload, 1) := by decide +kernel
theorem dX8_isKin_47 : decode cX8_isKin 47 = .ok (.iload_n 3, 1) := by decide +kernel
theorem dX8_isKin_48 : decode cX8_isKin 48 = .ok (.if_icmp .ne 7, 3) := by decide +kernel
theorem dX8_isKin_51 : decode cX8_isKin 51 = .ok (.iconst 1, 1) := by decide +kernel
theorem dX8_isKin_52 : decode cX8_isKin 52 = .ok (.goto 4, 3) := by decide +kernel
theorem dX8_isKin_55 : decode cX8_isKin 55 = .ok (.iconst 0, 1) := by decide +kernel
theorem dX8_isKin_56 : decode cX8_isKin 56 = .ok (.ireturn, 1) := by decide +kernel
theorem dX8_lets_0 : decode cX8_lets 0 = .ok (.iload_n 1, 1) := by decide +kernel
theorem dX8_lets_1 : decode cX8_lets 1 = .ok (.tableswitch 108 0 3 #[31, 46, 70, 106], 31) := by decide +kernel
theorem dX8_lets_32 : decode cX8_lets 32 = .ok (.aload_n 0, 1) := by decide +kernel
theorem dX8_lets_33 : decode cX8_lets 33 = .ok (.iload_n 2, 1) := by decide +kernel
theorem dX8_lets_34 : decode cX8_lets 34 = .ok (.iload_n 3, 1) := by decide +kernel
theorem dX8_lets_35 : decode cX8_lets 35 = .ok (.invokevirtual 151, 3) := by decide +kernel
theorem dX8_lets_38 : decode cX8_lets 38 = .ok (.ifCond .ne 7, 3) := by decide +kernel
theorem dX8_lets_41 : decode cX8_lets 41 = .ok (.iconst 1, 1) := by decide +kernel
theorem dX8_lets_42 : decode cX8_lets 42 = .ok (.goto 4, 3) := by decide +kernel
theorem dX8_lets_45 : decode cX8_lets 45 = .ok (.iconst 0, 1) := by decide +kernel
theorem dX8_lets_46 : decode cX8_lets 46 = .ok (.ireturn, 1) := by decide +kernel
theorem dX8_lets_47 : decode cX8_lets 47 = .ok (.aload_n 0, 1) := by decide +kernel
theorem dX8_lets_48 : decode cX8_lets 48 = .ok (.iload_n 2, 1) := by decide +kernel
theorem dX8_lets_49 : decode cX8_lets 49 = .ok (.iload_n 3, 1) := by decide +kernel
theorem dX8_lets_50 : decode cX8_lets 50 = .ok (.invokevirtual 151, 3) := by decide +kernel
theorem dX8_lets_53 : decode cX8_lets 53 = .ok (.ifCond .ne 16, 3) := by decide +kernel
theorem dX8_lets_56 : decode cX8_lets 56 = .ok (.aload_n 0, 1) := by decide +kernel
theorem dX8_lets_57 : decode cX8_lets 57 = .ok (.iload_n 2, 1) := by decide +kernel
theorem dX8_lets_58 : decode cX8_lets 58 = .ok (.iload_n 3, 1) := by decide +kernel
theorem dX8_lets_59 : decode cX8_lets 59 = .ok (.invokevirtual 155, 3) := by decide +kernel
theorem dX8_lets_62 : decode cX8_lets 62 = .ok (.ifCond .ne 7, 3) := by decide +kernel
theorem dX8_lets_65 : decode cX8_lets 65 = .ok (.iconst 1, 1) := by decide +kernel
theorem dX8_lets_66 : decode cX8_lets 66 = .ok (.goto 4, 3) := by decide +kernel
theorem dX8_lets_69 : decode cX8_lets 69 = .ok (.iconst 0, 1) := by decide +kernel
theorem dX8_lets_70 : decode cX8_lets 70 = .ok (.ireturn, 1) := by decide +kernel
theorem dX8_lets_71 : decode cX8_lets 71 = .ok (.aload_n 0, 1) := by decide +kernel
theorem dX8_lets_72 : decode cX8_lets 72 = .ok (.iload_n 2, 1) := by decide +kernel
theorem dX8_lets_73 : decode cX8_lets 73 = .ok (.iload_n 3, 1) := by decide +kernel
theorem dX8_lets_74 : decode cX8_lets 74 = .ok (.invokevirtual 151, 3) := by decide +kernel
theorem dX8_lets_77 : decode cX8_lets 77 = .ok (.ifCond .eq 24, 3) := by decide +kernel
theorem dX8_lets_80 : decode cX8_lets 80 = .ok (.iload 5, 2) := by decide +kernel
theorem dX8_lets_82 : decode cX8_lets 82 = .ok (.bipush (-9), 2) := by decide +kernel
theorem dX8_lets_84 : decode cX8_lets 84 = .ok (.if_icmp .eq 21, 3) := by decide +kernel
theorem dX8_lets_87 : decode cX8_lets 87 = .ok (.iload 4, 2) := by decide +kernel
theorem dX8_lets_89 : decode cX8_lets 89 = .ok (.iload 5, 2) := by decide +kernel
theorem dX8_lets_91 : decode cX8_lets 91 = .ok (.isub, 1) := by decide +kernel
theorem dX8_lets_92 : decode cX8_lets 92 = .ok (.iconst 0, 1) := by decide +kernel
theorem dX8_lets_93 : decode cX8_lets 93 = .ok (.bipush 59, 2) := by decide +kernel
theorem dX8_lets_95 : decode cX8_lets 95 = .ok (.invokestatic 61, 3) := by decide +kernel
theorem dX8_lets_98 : decode cX8_lets 98 = .ok (.ifCond .eq 7, 3) := by decide +kernel
theorem dX8_lets_101 : decode cX8_lets 101 = .ok (.iconst 1, 1) := by decide +kernel
theorem dX8_lets_102 : decode cX8_lets 102 = .ok (.goto 4, 3) := by decide +kernel
theorem dX8_lets_105 : decode cX8_lets 105 = .ok (.iconst 0, 1) := by decide +kernel
theorem dX8_lets_106 : decode cX8_lets 106 = .ok (.ireturn, 1) := by decide +kernel
theorem dX8_lets_107 : decode cX8_lets 107 = .ok (.iconst 1, 1) := by decide +kernel
theorem dX8_lets_108 : decode cX8_lets 108 = .ok (.ireturn, 1) := by decide +kernel
theorem dX8_lets_109 : decode cX8_lets 109 = .ok (.iload 4, 2) := by decide +kernel
theorem dX8_lets_111 : decode cX8_lets 111 = .ok (.sipush 720, 3) := by decide +kernel
theorem dX8_lets_114 : decode cX8_lets 114 = .ok (.if_icmp .ge 21, 3) := by decide +kernel
theorem dX8_lets_117 : decode cX8_lets 117 = .ok (.aload_n 0, 1) := by decide +kernel
theorem dX8_lets_118 : decode cX8_lets 118 = .ok (.iload_n 2, 1) := by decide +kernel
theorem dX8_lets_119 : decode cX8_lets 119 = .ok (.iload_n 3, 1) := by decide +kernel
theorem dX8_lets_120 : decode cX8_lets 120 = .ok (.invokevirtual 151, 3) := by decide +kernel
theorem dX8_lets_123 : decode cX8_lets 123 = .ok (.ifCond .ne 16, 3) := by decide +kernel
theorem dX8_lets_126 : decode cX8_lets 126 = .ok (.aload_n 0, 1) := by decide +kernel
theorem dX8_lets_127 : decode cX8_lets 127 = .ok (.iload_n 2, 1) := by decide +kernel
theorem dX8_lets_128 : decode cX8_lets 128 = .ok (.iload_n 3, 1) := by decide +kernel
theorem dX8_lets_129 : decode cX8_lets 129 = .ok (.invokevirtual 155, 3) := by decide +kernel
theorem dX8_lets_132 : decode cX8_lets 132 = .ok (.ifCond .ne 7, 3) := by decide +kernel
theorem dX8_lets_135 : decode cX8_lets 135 = .ok (.iconst 1, 1) := by decide +kernel
theorem dX8_lets_136 : decode cX8_lets 136 = .ok (.goto 4, 3) := by decide +kernel
theorem dX8_lets_139 : decode cX8_lets 139 = .ok (.iconst 0, 1) := by decide +kernel
theorem dX8_lets_140 : decode cX8_lets 140 = .ok (.ireturn, 1) := by decide +kernel
theorem dX8_isFree_0 : decode cX8_isFree 0 = .ok (.aload_n 0, 1) := by decide +kernel
theorem dX8_isFree_1 : decode cX8_isFree 1 = .ok (.getfield 31, 3) := by decide +kernel
theorem dX8_isFree_4 : decode cX8_isFree 4 = .ok (.iload_n 2, 1) := by decide +kernel
theorem dX8_isFree_5 : decode cX8_isFree 5 = .ok (.aaload, 1) := by decide +kernel
theorem dX8_isFree_6 : decode cX8_isFree 6 = .ok (.iconst 4, 1) := by decide +kernel
theorem dX8_isFree_7 : decode cX8_isFree 7 = .ok (.iaload, 1) := by decide +kernel
theorem dX8_isFree_8 : decode cX8_isFree 8 = .ok (.aload_n 0, 1) := by decide +kernel
theorem dX8_isFree_9 : decode cX8_isFree 9 = .ok (.getfield 28, 3) := by decide +kernel
theorem dX8_isFree_12 : decode cX8_isFree 12 = .ok (.iload_n 1, 1) := by decide +kernel
theorem dX8_isFree_13 : decode cX8_isFree 13 = .ok (.aaload, 1) := by decide +kernel
theorem dX8_isFree_14 : decode cX8_isFree 14 = .ok (.iconst 4, 1) := by decide +kernel
theorem dX8_isFree_15 : decode cX8_isFree 15 = .ok (.iaload, 1) := by decide +kernel
theorem dX8_isFree_16 : decode cX8_isFree 16 = .ok (.if_icmp .gt 7, 3) := by decide +kernel
theorem dX8_isFree_19 : decode cX8_isFree 19 = .ok (.iconst 1, 1) := by decide +kernel
theorem dX8_isFree_20 : decode cX8_isFree 20 = .ok (.goto 4, 3) := by decide +kernel
theorem dX8_isFree_23 : decode cX8_isFree 23 = .ok (.iconst 0, 1) := by decide +kernel
theorem dX8_isFree_24 : decode cX8_isFree 24 = .ok (.ireturn, 1) := by decide +kernel
theorem dX8_mayNow_0 : decode cX8_mayNow 0 = .ok (.aload_n 0, 1) := by decide +kernel
theorem dX8_mayNow_1 : decode cX8_mayNow 1 = .ok (.iload_n 1, 1) := by decide +kernel
theorem dX8_mayNow_2 : decode cX8_mayNow 2 = .ok (.iload_n 2, 1) := by decide +kernel
theorem dX8_mayNow_3 : decode cX8_mayNow 3 = .ok (.invokevirtual 158, 3) := by decide +kernel
theorem dX8_mayNow_6 : decode cX8_mayNow 6 = .ok (.ifCond .eq 30, 3) := by decide +kernel
theorem dX8_mayNow_9 : decode cX8_mayNow 9 = .ok (.aload_n 0, 1) := by decide +kernel
theorem dX8_mayNow_10 : decode cX8_mayNow 10 = .ok (.aload_n 0, 1) := by decide +kernel
theorem dX8_mayNow_11 : decode cX8_mayNow 11 = .ok (.getfield 148, 3) := by decide +kernel
theorem dX8_mayNow_14 : decode cX8_mayNow 14 = .ok (.iload_n 1, 1) := by decide +kernel
theorem dX8_mayNow_15 : decode cX8_mayNow 15 = .ok (.iload_n 2, 1) := by decide +kernel
theorem dX8_mayNow_16 : decode cX8_mayNow 16 = .ok (.iload_n 3, 1) := by decide +kernel
theorem dX8_mayNow_17 : decode cX8_mayNow 17 = .ok (.aload_n 0, 1) := by decide +kernel
theorem dX8_mayNow_18 : decode cX8_mayNow 18 = .ok (.getfield 31, 3) := by decide +kernel
theorem dX8_mayNow_21 : decode cX8_mayNow 21 = .ok (.iload_n 2, 1) := by decide +kernel
theorem dX8_mayNow_22 : decode cX8_mayNow 22 = .ok (.aaload, 1) := by decide +kernel
theorem dX8_mayNow_23 : decode cX8_mayNow 23 = .ok (.bipush 9, 2) := by decide +kernel
theorem dX8_mayNow_25 : decode cX8_mayNow 25 = .ok (.iaload, 1) := by decide +kernel
theorem dX8_mayNow_26 : decode cX8_mayNow 26 = .ok (.invokevirtual 161, 3) := by decide +kernel
theorem dX8_mayNow_29 : decode cX8_mayNow 29 = .ok (.ifCond .eq 7, 3) := by decide +kernel
theorem dX8_mayNow_32 : decode cX8_mayNow 32 = .ok (.iconst 1, 1) := by decide +kernel
theorem dX8_mayNow_33 : decode cX8_mayNow 33 = .ok (.goto 4, 3) := by decide +kernel
theorem dX8_mayNow_36 : decode cX8_mayNow 36 = .ok (.iconst 0, 1) := by decide +kernel
theorem dX8_mayNow_37 : decode cX8_mayNow 37 = .ok (.ireturn, 1) := by decide +kernel
theorem dX8_may_0 : decode cX8_may 0 = .ok (.aload_n 0, 1) := by decide +kernel
theorem dX8_may_1 : decode cX8_may 1 = .ok (.iload_n 1, 1) := by decide +kernel
theorem dX8_may_2 : decode cX8_may 2 = .ok (.invokevirtual 108, 3) := by decide +kernel
theorem dX8_may_5 : decode cX8_may 5 = .ok (.ifCond .eq 11, 3) := by decide +kernel
theorem dX8_may_8 : decode cX8_may 8 = .ok (.aload_n 0, 1) := by decide +kernel
theorem dX8_may_9 : decode cX8_may 9 = .ok (.iload_n 2, 1) := by decide +kernel
theorem dX8_may_10 : decode cX8_may 10 = .ok (.invokevirtual 145, 3) := by decide +kernel
theorem dX8_may_13 : decode cX8_may 13 = .ok (.ifCond .ne 9, 3) := by decide +kernel
theorem dX8_may_16 : decode cX8_may 16 = .ok (.aload_n 0, 1) := by decide +kernel
theorem dX8_may_17 : decode cX8_may 17 = .ok (.iconst (-1), 1) := by decide +kernel
theorem dX8_may_18 : decode cX8_may 18 = .ok (.invokevirtual 71, 3) := by decide +kernel
theorem dX8_may_21 : decode cX8_may 21 = .ok (.ireturn, 1) := by decide +kernel
theorem dX8_may_22 : decode cX8_may 22 = .ok (.iload_n 3, 1) := by decide +kernel
theorem dX8_may_23 : decode cX8_may 23 = .ok (.ifCond .ge 10, 3) := by decide +kernel
theorem dX8_may_26 : decode cX8_may 26 = .ok (.aload_n 0, 1) := by decide +kernel
theorem dX8_may_27 : decode cX8_may 27 = .ok (.bipush (-4), 2) := by decide +kernel
theorem dX8_may_29 : decode cX8_may 29 = .ok (.invokevirtual 71, 3) := by decide +kernel
theorem dX8_may_32 : decode cX8_may 32 = .ok (.ireturn, 1) := by decide +kernel
theorem dX8_may_33 : decode cX8_may 33 = .ok (.iload_n 3, 1) := by decide +kernel
theorem dX8_may_34 : decode cX8_may 34 = .ok (.sipush 9999, 3) := by decide +kernel
theorem dX8_may_37 : decode cX8_may 37 = .ok (.if_icmp .le 10, 3) := by decide +kernel
theorem dX8_may_40 : decode cX8_may 40 = .ok (.aload_n 0, 1) := by decide +kernel
theorem dX8_may_41 : decode cX8_may 41 = .ok (.bipush (-6), 2) := by decide +kernel
theorem dX8_may_43 : decode cX8_may 43 = .ok (.invokevirtual 71, 3) := by decide +kernel
theorem dX8_may_46 : decode cX8_may 46 = .ok (.ireturn, 1) := by decide +kernel
theorem dX8_may_47 : decode cX8_may 47 = .ok (.aload_n 0, 1) := by decide +kernel
theorem dX8_may_48 : decode cX8_may 48 = .ok (.iload_n 1, 1) := by decide +kernel
theorem dX8_may_49 : decode cX8_may 49 = .ok (.iload_n 2, 1) := by decide +kernel
theorem dX8_may_50 : decode cX8_may 50 = .ok (.iload_n 3, 1) := by decide +kernel
theorem dX8_may_51 : decode cX8_may 51 = .ok (.invokevirtual 165, 3) := by decide +kernel
theorem dX8_may_54 : decode cX8_may 54 = .ok (.ifCond .eq 7, 3) := by decide +kernel
theorem dX8_may_57 : decode cX8_may 57 = .ok (.iconst 1, 1) := by decide +kernel
theorem dX8_may_58 : decode cX8_may 58 = .ok (.goto 4, 3) := by decide +kernel
theorem dX8_may_61 : decode cX8_may 61 = .ok (.iconst 0, 1) := by decide +kernel
theorem dX8_may_62 : decode cX8_may 62 = .ok (.ireturn, 1) := by decide +kernel
theorem dX8_sizeOn_0 : decode cX8_sizeOn 0 = .ok (.iconst 0, 1) := by decide +kernel
theorem dX8_sizeOn_1 : decode cX8_sizeOn 1 = .ok (.istore_n 2, 1) := by decide +kernel
theorem dX8_sizeOn_2 : decode cX8_sizeOn 2 = .ok (.iconst 0, 1) := by decide +kernel
theorem dX8_sizeOn_3 : decode cX8_sizeOn 3 = .ok (.istore_n 3, 1) := by decide +kernel
theorem dX8_sizeOn_4 : decode cX8_sizeOn 4 = .ok (.iload_n 3, 1) := by decide +kernel
theorem dX8_sizeOn_5 : decode cX8_sizeOn 5 = .ok (.aload_n 0, 1) := by decide +kernel
theorem dX8_sizeOn_6 : decode cX8_sizeOn 6 = .ok (.getfield 68, 3) := by decide +kernel
theorem dX8_sizeOn_9 : decode cX8_sizeOn 9 = .ok (.if_icmp .ge 40, 3) := by decide +kernel
theorem dX8_sizeOn_12 : decode cX8_sizeOn 12 = .ok (.iload_n 2, 1) := by decide +kernel
theorem dX8_sizeOn_13 : decode cX8_sizeOn 13 = .ok (.aload_n 0, 1) := by decide +kernel
theorem dX8_sizeOn_14 : decode cX8_sizeOn 14 = .ok (.getfield 31, 3) := by decide +kernel
theorem dX8_sizeOn_17 : decode cX8_sizeOn 17 = .ok (.iload_n 3, 1) := by decide +kernel
theorem dX8_sizeOn_18 : decode cX8_sizeOn 18 = .ok (.aaload, 1) := by decide +kernel
theorem dX8_sizeOn_19 : decode cX8_sizeOn 19 = .ok (.bipush 7, 2) := by decide +kernel
theorem dX8_sizeOn_21 : decode cX8_sizeOn 21 = .ok (.iaload, 1) := by decide +kernel
theorem dX8_sizeOn_22 : decode cX8_sizeOn 22 = .ok (.bipush 10, 2) := by decide +kernel
theorem dX8_sizeOn_24 : decode cX8_sizeOn 24 = .ok (.iload_n 1, 1) := by decide +kernel
theorem dX8_sizeOn_25 : decode cX8_sizeOn 25 = .ok (.iadd, 1) := by decide +kernel
theorem dX8_sizeOn_26 : decode cX8_sizeOn 26 = .ok (.if_icmp .ne 14, 3) := by decide +kernel
theorem dX8_sizeOn_29 : decode cX8_sizeOn 29 = .ok (.aload_n 0, 1) := by decide +kernel
theorem dX8_sizeOn_30 : decode cX8_sizeOn 30 = .ok (.getfield 31, 3) := by decide +kernel
theorem dX8_sizeOn_33 : decode cX8_sizeOn 33 = .ok (.iload_n 3, 1) := by decide +kernel
theorem dX8_sizeOn_34 : decode cX8_sizeOn 34 = .ok (.aaload, 1) := by decide +kernel
theorem dX8_sizeOn_35 : decode cX8_sizeOn 35 = .ok (.iconst 4, 1) := by decide +kernel
theorem dX8_sizeOn_36 : decode cX8_sizeOn 36 = .ok (.iaload, 1) := by decide +kernel
theorem dX8_sizeOn_37 : decode cX8_sizeOn 37 = .ok (.goto 4, 3) := by decide +kernel
theorem dX8_sizeOn_40 : decode cX8_sizeOn 40 = .ok (.iconst 0, 1) := by decide +kernel
theorem dX8_sizeOn_41 : decode cX8_sizeOn 41 = .ok (.iadd, 1) := by decide +kernel
theorem dX8_sizeOn_42 : decode cX8_sizeOn 42 = .ok (.istore_n 2, 1) := by decide +kernel
theorem dX8_sizeOn_43 : decode cX8_sizeOn 43 = .ok (.iinc 3 1, 3) := by decide +kernel
theorem dX8_sizeOn_46 : decode cX8_sizeOn 46 = .ok (.goto (-42), 3) := by decide +kernel
theorem dX8_sizeOn_49 : decode cX8_sizeOn 49 = .ok (.iload_n 2, 1) := by decide +kernel
theorem dX8_sizeOn_50 : decode cX8_sizeOn 50 = .ok (.ireturn, 1) := by decide +kernel
theorem dX8_hasRoom_0 : decode cX8_hasRoom 0 = .ok (.aload_n 0, 1) := by decide +kernel
theorem dX8_hasRoom_1 : decode cX8_hasRoom 1 = .ok (.iload_n 1, 1) := by decide +kernel
theorem dX8_hasRoom_2 : decode cX8_hasRoom 2 = .ok (.invokevirtual 168, 3) := by decide +kernel
theorem dX8_hasRoom_5 : decode cX8_hasRoom 5 = .ok (.aload_n 0, 1) := by decide +kernel
theorem dX8_hasRoom_6 : decode cX8_hasRoom 6 = .ok (.getfield 31, 3) := by decide +kernel
theorem dX8_hasRoom_9 : decode cX8_hasRoom 9 = .ok (.iload_n 2, 1) := by decide +kernel
theorem dX8_hasRoom_10 : decode cX8_hasRoom 10 = .ok (.aaload, 1) := by decide +kernel
theorem dX8_hasRoom_11 : decode cX8_hasRoom 11 = .ok (.iconst 4, 1) := by decide +kernel
theorem dX8_hasRoom_12 : decode cX8_hasRoom 12 = .ok (.iaload, 1) := by decide +kernel
theorem dX8_hasRoom_13 : decode cX8_hasRoom 13 = .ok (.iadd, 1) := by decide +kernel
theorem dX8_hasRoom_14 : decode cX8_hasRoom 14 = .ok (.aload_n 0, 1) := by decide +kernel
theorem dX8_hasRoom_15 : decode cX8_hasRoom 15 = .ok (.getfield 28, 3) := by decide +kernel
theorem dX8_hasRoom_18 : decode cX8_hasRoom 18 = .ok (.iload_n 1, 1) := by decide +kernel
theorem dX8_hasRoom_19 : decode cX8_hasRoom 19 = .ok (.aaload, 1) := by decide +kernel
theorem dX8_hasRoom_20 : decode cX8_hasRoom 20 = .ok (.iconst 4, 1) := by decide +kernel
theorem dX8_hasRoom_21 : decode cX8_hasRoom 21 = .ok (.iaload, 1) := by decide +kernel
theorem dX8_hasRoom_22 : decode cX8_hasRoom 22 = .ok (.if_icmp .gt 7, 3) := by decide +kernel
theorem dX8_hasRoom_25 : decode cX8_hasRoom 25 = .ok (.iconst 1, 1) := by decide +kernel
theorem dX8_hasRoom_26 : decode cX8_hasRoom 26 = .ok (.goto 4, 3) := by decide +kernel
theorem dX8_hasRoom_29 : decode cX8_hasRoom 29 = .ok (.iconst 0, 1) := by decide +kernel
theorem dX8_hasRoom_30 : decode cX8_hasRoom 30 = .ok (.ireturn, 1) := by decide +kernel
theorem dX8_later_0 : decode cX8_later 0 = .ok (.iload_n 0, 1) := by decide +kernel
theorem dX8_later_1 : decode cX8_later 1 = .ok (.iload_n 1, 1) := by decide +kernel
theorem dX8_later_2 : decode cX8_later 2 = .ok (.if_icmp .le 7, 3) := by decide +kernel
theorem dX8_later_5 : decode cX8_later 5 = .ok (.iload_n 0, 1) := by decide +kernel
theorem dX8_later_6 : decode cX8_later 6 = .ok (.goto 4, 3) := by decide +kernel
theorem dX8_later_9 : decode cX8_later 9 = .ok (.iload_n 1, 1) := by decide +kernel
theorem dX8_later_10 : decode cX8_later 10 = .ok (.ireturn, 1) := by decide +kernel
theorem dX8_take_0 : decode cX8_take 0 = .ok (.aload_n 0, 1) := by decide +kernel
theorem dX8_take_1 : decode cX8_take 1 = .ok (.iload_n 1, 1) := by decide +kernel
theorem dX8_take_2 : decode cX8_take 2 = .ok (.invokevirtual 108, 3) := by decide +kernel
theorem dX8_take_5 : decode cX8_take 5 = .ok (.ifCond .eq 11, 3) := by decide +kernel
theorem dX8_take_8 : decode cX8_take 8 = .ok (.aload_n 0, 1) := by decide +kernel
theorem dX8_take_9 : decode cX8_take 9 = .ok (.iload_n 2, 1) := by decide +kernel
theorem dX8_take_10 : decode cX8_take 10 = .ok (.invokevirtual 145, 3) := by decide +kernel
theorem dX8_take_13 : decode cX8_take 13 = .ok (.ifCond .ne 9, 3) := by decide +kernel
theorem dX8_take_16 : decode cX8_take 16 = .ok (.aload_n 0, 1) := by decide +kernel
theorem dX8_take_17 : decode cX8_take 17 = .ok (.iconst (-1), 1) := by decide +kernel
theorem dX8_take_18 : decode cX8_take 18 = .ok (.invokevirtual 71, 3) := by decide +kernel
theorem dX8_take_21 : decode cX8_take 21 = .ok (.ireturn, 1) := by decide +kernel
theorem dX8_take_22 : decode cX8_take 22 = .ok (.aload_n 0, 1) := by decide +kernel
theorem dX8_take_23 : decode cX8_take 23 = .ok (.getfield 28, 3) := by decide +kernel
theorem dX8_take_26 : decode cX8_take 26 = .ok (.iload_n 1, 1) := by decide +kernel
theorem dX8_take_27 : decode cX8_take 27 = .ok (.aaload, 1) := by decide +kernel
theorem dX8_take_28 : decode cX8_take 28 = .ok (.bipush 6, 2) := by decide +kernel
theorem dX8_take_30 : decode cX8_take 30 = .ok (.iaload, 1) := by decide +kernel
theorem dX8_take_31 : decode cX8_take 31 = .ok (.aload_n 0, 1) := by decide +kernel
theorem dX8_take_32 : decode cX8_take 32 = .ok (.getfield 31, 3) := by decide +kernel
theorem dX8_take_35 : decode cX8_take 35 = .ok (.iload_n 2, 1) := by decide +kernel
theorem dX8_take_36 : decode cX8_take 36 = .ok (.aaload, 1) := by decide +kernel
theorem dX8_take_37 : decode cX8_take 37 = .ok (.bipush 8, 2) := by decide +kernel
theorem dX8_take_39 : decode cX8_take 39 = .ok (.iaload, 1) := by decide +kernel
theorem dX8_take_40 : decode cX8_take 40 = .ok (.invokestatic 171, 3) := by decide +kernel
theorem dX8_take_43 : decode cX8_take 43 = .ok (.istore_n 3, 1) := by decide +kernel
theorem dX8_take_44 : decode cX8_take 44 = .ok (.aload_n 0, 1) := by decide +kernel
theorem dX8_take_45 : decode cX8_take 45 = .ok (.getfield 31, 3) := by decide +kernel
theorem dX8_take_48 : decode cX8_take 48 = .ok (.iload_n 2, 1) := by decide +kernel
theorem dX8_take_49 : decode cX8_take 49 = .ok (.aaload, 1) := by decide +kernel
theorem dX8_take_50 : decode cX8_take 50 = .ok (.bipush 7, 2) := by decide +kernel
theorem dX8_take_52 : decode cX8_take 52 = .ok (.iaload, 1) := by decide +kernel
theorem dX8_take_53 : decode cX8_take 53 = .ok (.aload_n 0, 1) := by decide +kernel
theorem dX8_take_54 : decode cX8_take 54 = .ok (.getfield 28, 3) := by decide +kernel
theorem dX8_take_57 : decode cX8_take 57 = .ok (.iload_n 1, 1) := by decide +kernel
theorem dX8_take_58 : decode cX8_take 58 = .ok (.aaload, 1) := by decide +kernel
theorem dX8_take_59 : decode cX8_take 59 = .ok (.iconst 5, 1) := by decide +kernel
theorem dX8_take_60 : decode cX8_take 60 = .ok (.iaload, 1) := by decide +kernel
theorem dX8_take_61 : decode cX8_take 61 = .ok (.if_icmp .ne 22, 3) := by decide +kernel
theorem dX8_take_64 : decode cX8_take 64 = .ok (.aload_n 0, 1) := by decide +kernel
theorem dX8_take_65 : decode cX8_take 65 = .ok (.iload_n 1, 1) := by decide +kernel
theorem dX8_take_66 : decode cX8_take 66 = .ok (.iload_n 2, 1) := by decide +kernel
theorem dX8_take_67 : decode cX8_take 67 = .ok (.iload_n 3, 1) := by decide +kernel
theorem dX8_take_68 : decode cX8_take 68 = .ok (.invokevirtual 165, 3) := by decide +kernel
theorem dX8_take_71 : decode cX8_take 71 = .ok (.ifCond .eq 12, 3) := by decide +kernel
theorem dX8_take_74 : decode cX8_take 74 = .ok (.aload_n 0, 1) := by decide +kernel
theorem dX8_take_75 : decode cX8_take 75 = .ok (.iload_n 1, 1) := by decide +kernel
theorem dX8_take_76 : decode cX8_take 76 = .ok (.iload_n 2, 1) := by decide +kernel
theorem dX8_take_77 : decode cX8_take 77 = .ok (.invokevirtual 175, 3) := by decide +kernel
theorem dX8_take_80 : decode cX8_take 80 = .ok (.ifCond .ne 10, 3) := by decide +kernel
theorem dX8_take_83 : decode cX8_take 83 = .ok (.aload_n 0, 1) := by decide +kernel
theorem dX8_take_84 : decode cX8_take 84 = .ok (.bipush (-3), 2) := by decide +kernel
theorem dX8_take_86 : decode cX8_take 86 = .ok (.invokevirtual 71, 3) := by decide +kernel
theorem dX8_take_89 : decode cX8_take 89 = .ok (.ireturn, 1) := by decide +kernel
theorem dX8_take_90 : decode cX8_take 90 = .ok (.aload_n 0, 1) := by decide +kernel
theorem dX8_take_91 : decode cX8_take 91 = .ok (.getfield 28, 3) := by decide +kernel
theorem dX8_take_94 : decode cX8_take 94 = .ok (.iload_n 1, 1) := by decide +kernel
theorem dX8_take_95 : decode cX8_take 95 = .ok (.aaload, 1) := by decide +kernel
theorem dX8_take_96 : decode cX8_take 96 = .ok (.bipush 6, 2) := by decide +kernel
theorem dX8_take_98 : decode cX8_take 98 = .ok (.iload_n 3, 1) := by decide +kernel
theorem dX8_take_99 : decode cX8_take 99 = .ok (.iastore, 1) := by decide +kernel
theorem dX8_take_100 : decode cX8_take 100 = .ok (.aload_n 0, 1) := by decide +kernel
theorem dX8_take_101 : decode cX8_take 101 = .ok (.getfield 31, 3) := by decide +kernel
theorem dX8_take_104 : decode cX8_take 104 = .ok (.iload_n 2, 1) := by decide +kernel
theorem dX8_take_105 : decode cX8_take 105 = .ok (.aaload, 1) := by decide +kernel
theorem dX8_take_106 : decode cX8_take 106 = .ok (.bipush 7, 2) := by decide +kernel
theorem dX8_take_108 : decode cX8_take 108 = .ok (.bipush 10, 2) := by decide +kernel
theorem dX8_take_110 : decode cX8_take 110 = .ok (.iload_n 1, 1) := by decide +kernel
theorem dX8_take_111 : decode cX8_take 111 = .ok (.iadd, 1) := by decide +kernel
theorem dX8_take_112 : decode cX8_take 112 = .ok (.iastore, 1) := by decide +kernel
theorem dX8_take_113 : decode cX8_take 113 = .ok (.aload_n 0, 1) := by decide +kernel
theorem dX8_take_114 : decode cX8_take 114 = .ok (.getfield 31, 3) := by decide +kernel
theorem dX8_take_117 : decode cX8_take 117 = .ok (.iload_n 2, 1) := by decide +kernel
theorem dX8_take_118 : decode cX8_take 118 = .ok (.aaload, 1) := by decide +kernel
theorem dX8_take_119 : decode cX8_take 119 = .ok (.bipush 8, 2) := by decide +kernel
theorem dX8_take_121 : decode cX8_take 121 = .ok (.iconst 0, 1) := by decide +kernel
theorem dX8_take_122 : decode cX8_take 122 = .ok (.iastore, 1) := by decide +kernel
theorem dX8_take_123 : decode cX8_take 123 = .ok (.iload_n 3, 1) := by decide +kernel
theorem dX8_take_124 : decode cX8_take 124 = .ok (.ireturn, 1) := by decide +kernel
theorem dX8_go_0 : decode cX8_go 0 = .ok (.aload_n 0, 1) := by decide +kernel
theorem dX8_go_1 : decode cX8_go 1 = .ok (.iload_n 1, 1) := by decide +kernel
theorem dX8_go_2 : decode cX8_go 2 = .ok (.invokevirtual 108, 3) := by decide +kernel
theorem dX8_go_5 : decode cX8_go 5 = .ok (.ifCond .eq 11, 3) := by decide +kernel
theorem dX8_go_8 : decode cX8_go 8 = .ok (.aload_n 0, 1) := by decide +kernel
theorem dX8_go_9 : decode cX8_go 9 = .ok (.iload_n 2, 1) := by decide +kernel
theorem dX8_go_10 : decode cX8_go 10 = .ok (.invokevirtual 105, 3) := by decide +kernel
theorem dX8_go_13 : decode cX8_go 13 = .ok (.ifCond .ne 9, 3) := by decide +kernel
theorem dX8_go_16 : decode cX8_go 16 = .ok (.aload_n 0, 1) := by decide +kernel
theorem dX8_go_17 : decode cX8_go 17 = .ok (.iconst (-1), 1) := by decide +kernel
theorem dX8_go_18 : decode cX8_go 18 = .ok (.invokevirtual 71, 3) := by decide +kernel
theorem dX8_go_21 : decode cX8_go 21 = .ok (.ireturn, 1) := by decide +kernel
theorem dX8_go_22 : decode cX8_go 22 = .ok (.aload_n 0, 1) := by decide +kernel
theorem dX8_go_23 : decode cX8_go 23 = .ok (.invokevirtual 139, 3) := by decide +kernel
theorem dX8_go_26 : decode cX8_go 26 = .ok (.aload_n 0, 1) := by decide +kernel
theorem dX8_go_27 : decode cX8_go 27 = .ok (.getfield 37, 3) := by decide +kernel
theorem dX8_go_30 : decode cX8_go 30 = .ok (.aload_n 0, 1) := by decide +kernel
theorem dX8_go_31 : decode cX8_go 31 = .ok (.getfield 28, 3) := by decide +kernel
theorem dX8_go_34 : decode cX8_go 34 = .ok (.iload_n 1, 1) := by decide +kernel
theorem dX8_go_35 : decode cX8_go 35 = .ok (.aaload, 1) := by decide +kernel
theorem dX8_go_36 : decode cX8_go 36 = .ok (.iconst 5, 1) := by decide +kernel
theorem dX8_go_37 : decode cX8_go 37 = .ok (.iaload, 1) := by decide +kernel
theorem dX8_go_38 : decode cX8_go 38 = .ok (.aaload, 1) := by decide +kernel
theorem dX8_go_39 : decode cX8_go 39 = .ok (.iload_n 2, 1) := by decide +kernel
theorem dX8_go_40 : decode cX8_go 40 = .ok (.iaload, 1) := by decide +kernel
theorem dX8_go_41 : decode cX8_go 41 = .ok (.istore_n 3, 1) := by decide +kernel
theorem dX8_go_42 : decode cX8_go 42 = .ok (.iload_n 3, 1) := by decide +kernel
theorem dX8_go_43 : decode cX8_go 43 = .ok (.ldc 138, 2) := by decide +kernel
theorem dX8_go_45 : decode cX8_go 45 = .ok (.if_icmp .ge 7, 3) := by decide +kernel
theorem dX8_go_48 : decode cX8_go 48 = .ok (.iconst 1, 1) := by decide +kernel
theorem dX8_go_49 : decode cX8_go 49 = .ok (.goto 4, 3) := by decide +kernel
theorem dX8_go_52 : decode cX8_go 52 = .ok (.iconst 0, 1) := by decide +kernel
theorem dX8_go_53 : decode cX8_go 53 = .ok (.istore 4, 2) := by decide +kernel
theorem dX8_go_55 : decode cX8_go 55 = .ok (.iconst 0, 1) := by decide +kernel
theorem dX8_go_56 : decode cX8_go 56 = .ok (.istore 5, 2) := by decide +kernel
theorem dX8_go_58 : decode cX8_go 58 = .ok (.iload 5, 2) := by decide +kernel
theorem dX8_go_60 : decode cX8_go 60 = .ok (.aload_n 0, 1) := by decide +kernel
theorem dX8_go_61 : decode cX8_go 61 = .ok (.getfield 68, 3) := by decide +kernel
theorem dX8_go_64 : decode cX8_go 64 = .ok (.if_icmp .ge 55, 3) := by decide +kernel
theorem dX8_go_67 : decode cX8_go 67 = .ok (.iload 4, 2) := by decide +kernel
theorem dX8_go_69 : decode cX8_go 69 = .ok (.aload_n 0, 1) := by decide +kernel
theorem dX8_go_70 : decode cX8_go 70 = .ok (.getfield 31, 3) := by decide +kernel
theorem dX8_go_73 : decode cX8_go 73 = .ok (.iload 5, 2) := by decide +kernel
theorem dX8_go_75 : decode cX8_go 75 = .ok (.aaload, 1) := by decide +kernel
theorem dX8_go_76 : decode cX8_go 76 = .ok (.bipush 7, 2) := by decide +kernel
theorem dX8_go_78 : decode cX8_go 78 = .ok (.iaload, 1) := by decide +kernel
theorem dX8_go_79 : decode cX8_go 79 = .ok (.bipush 10, 2) := by decide +kernel
theorem dX8_go_81 : decode cX8_go 81 = .ok (.iload_n 1, 1) := by decide +kernel
theorem dX8_go_82 : decode cX8_go 82 = .ok (.iadd, 1) := by decide +kernel
theorem dX8_go_83 : decode cX8_go 83 = .ok (.if_icmp .ne 22, 3) := by decide +kernel
theorem dX8_go_86 : decode cX8_go 86 = .ok (.aload_n 0, 1) := by decide +kernel
theorem dX8_go_87 : decode cX8_go 87 = .ok (.iload_n 1, 1) := by decide +kernel
theorem dX8_go_88 : decode cX8_go 88 = .ok (.iload 5, 2) := by decide +kernel
theorem dX8_go_90 : decode cX8_go 90 = .ok (.aload_n 0, 1) := by decide +kernel
theorem dX8_go_91 : decode cX8_go 91 = .ok (.getfield 28, 3) := by decide +kernel
theorem dX8_go_94 : decode cX8_go 94 = .ok (.iload_n 1, 1) := by decide +kernel
theorem dX8_go_95 : decode cX8_go 95 = .ok (.aaload, 1) := by decide +kernel
theorem dX8_go_96 : decode cX8_go 96 = .ok (.bipush 6, 2) := by decide +kernel
theorem dX8_go_98 : decode cX8_go 98 = .ok (.iaload, 1) := by decide +kernel
theorem dX8_go_99 : decode cX8_go 99 = .ok (.invokevirtual 165, 3) := by decide +kernel
theorem dX8_go_102 : decode cX8_go 102 = .ok (.ifCond .eq 7, 3) := by decide +kernel
theorem dX8_go_105 : decode cX8_go 105 = .ok (.iconst 1, 1) := by decide +kernel
theorem dX8_go_106 : decode cX8_go 106 = .ok (.goto 4, 3) := by decide +kernel
theorem dX8_go_109 : decode cX8_go 109 = .ok (.iconst 0, 1) := by decide +kernel
theorem dX8_go_110 : decode cX8_go 110 = .ok (.iand, 1) := by decide +kernel
theorem dX8_go_111 : decode cX8_go 111 = .ok (.istore 4, 2) := by decide +kernel
theorem dX8_go_113 : decode cX8_go 113 = .ok (.iinc 5 1, 3) := by decide +kernel
theorem dX8_go_116 : decode cX8_go 116 = .ok (.goto (-58), 3) := by decide +kernel
theorem dX8_go_119 : decode cX8_go 119 = .ok (.iload 4, 2) := by decide +kernel
theorem dX8_go_121 : decode cX8_go 121 = .ok (.ifCond .ne 10, 3) := by decide +kernel
theorem dX8_go_124 : decode cX8_go 124 = .ok (.aload_n 0, 1) := by decide +kernel
theorem dX8_go_125 : decode cX8_go 125 = .ok (.bipush (-3), 2) := by decide +kernel
theorem dX8_go_127 : decode cX8_go 127 = .ok (.invokevirtual 71, 3) := by decide +kernel
theorem dX8_go_130 : decode cX8_go 130 = .ok (.ireturn, 1) := by decide +kernel
theorem dX8_go_131 : decode cX8_go 131 = .ok (.aload_n 0, 1) := by decide +kernel
theorem dX8_go_132 : decode cX8_go 132 = .ok (.getfield 28, 3) := by decide +kernel
theorem dX8_go_135 : decode cX8_go 135 = .ok (.iload_n 1, 1) := by decide +kernel
theorem dX8_go_136 : decode cX8_go 136 = .ok (.aaload, 1) := by decide +kernel
theorem dX8_go_137 : decode cX8_go 137 = .ok (.iconst 5, 1) := by decide +kernel
theorem dX8_go_138 : decode cX8_go 138 = .ok (.iload_n 2, 1) := by decide +kernel
theorem dX8_go_139 : decode cX8_go 139 = .ok (.iastore, 1) := by decide +kernel
theorem dX8_go_140 : decode cX8_go 140 = .ok (.aload_n 0, 1) := by decide +kernel
theorem dX8_go_141 : decode cX8_go 141 = .ok (.getfield 28, 3) := by decide +kernel
theorem dX8_go_144 : decode cX8_go 144 = .ok (.iload_n 1, 1) := by decide +kernel
theorem dX8_go_145 : decode cX8_go 145 = .ok (.aaload, 1) := by decide +kernel
theorem dX8_go_146 : decode cX8_go 146 = .ok (.bipush 6, 2) := by decide +kernel
theorem dX8_go_148 : decode cX8_go 148 = .ok (.dup2, 1) := by decide +kernel
theorem dX8_go_149 : decode cX8_go 149 = .ok (.iaload, 1) := by decide +kernel
theorem dX8_go_150 : decode cX8_go 150 = .ok (.iload_n 3, 1) := by decide +kernel
theorem dX8_go_151 : decode cX8_go 151 = .ok (.iadd, 1) := by decide +kernel
theorem dX8_go_152 : decode cX8_go 152 = .ok (.iastore, 1) := by decide +kernel
theorem dX8_go_153 : decode cX8_go 153 = .ok (.aload_n 0, 1) := by decide +kernel
theorem dX8_go_154 : decode cX8_go 154 = .ok (.getfield 28, 3) := by decide +kernel
theorem dX8_go_157 : decode cX8_go 157 = .ok (.iload_n 1, 1) := by decide +kernel
theorem dX8_go_158 : decode cX8_go 158 = .ok (.aaload, 1) := by decide +kernel
theorem dX8_go_159 : decode cX8_go 159 = .ok (.bipush 6, 2) := by decide +kernel
theorem dX8_go_161 : decode cX8_go 161 = .ok (.iaload, 1) := by decide +kernel
theorem dX8_go_162 : decode cX8_go 162 = .ok (.ireturn, 1) := by decide +kernel
theorem dX8_lay_0 : decode cX8_lay 0 = .ok (.aload_n 0, 1) := by decide +kernel
theorem dX8_lay_1 : decode cX8_lay 1 = .ok (.iload_n 1, 1) := by decide +kernel
theorem dX8_lay_2 : decode cX8_lay 2 = .ok (.invokevirtual 108, 3) := by decide +kernel
theorem dX8_lay_5 : decode cX8_lay 5 = .ok (.ifCond .eq 11, 3) := by decide +kernel
theorem dX8_lay_8 : decode cX8_lay 8 = .ok (.aload_n 0, 1) := by decide +kernel
theorem dX8_lay_9 : decode cX8_lay 9 = .ok (.iload_n 2, 1) := by decide +kernel
theorem dX8_lay_10 : decode cX8_lay 10 = .ok (.invokevirtual 145, 3) := by decide +kernel
theorem dX8_lay_13 : decode cX8_lay 13 = .ok (.ifCond .ne 9, 3) := by decide +kernel
theorem dX8_lay_16 : decode cX8_lay 16 = .ok (.aload_n 0, 1) := by decide +kernel
theorem dX8_lay_17 : decode cX8_lay 17 = .ok (.iconst (-1), 1) := by decide +kernel
theorem dX8_lay_18 : decode cX8_lay 18 = .ok (.invokevirtual 71, 3) := by decide +kernel
theorem dX8_lay_21 : decode cX8_lay 21 = .ok (.ireturn, 1) := by decide +kernel
theorem dX8_lay_22 : decode cX8_lay 22 = .ok (.aload_n 0, 1) := by decide +kernel
theorem dX8_lay_23 : decode cX8_lay 23 = .ok (.getfield 31, 3) := by decide +kernel
theorem dX8_lay_26 : decode cX8_lay 26 = .ok (.iload_n 2, 1) := by decide +kernel
theorem dX8_lay_27 : decode cX8_lay 27 = .ok (.aaload, 1) := by decide +kernel
theorem dX8_lay_28 : decode cX8_lay 28 = .ok (.bipush 7, 2) := by decide +kernel
theorem dX8_lay_30 : decode cX8_lay 30 = .ok (.iaload, 1) := by decide +kernel
theorem dX8_lay_31 : decode cX8_lay 31 = .ok (.bipush 10, 2) := by decide +kernel
theorem dX8_lay_33 : decode cX8_lay 33 = .ok (.iload_n 1, 1) := by decide +kernel
theorem dX8_lay_34 : decode cX8_lay 34 = .ok (.iadd, 1) := by decide +kernel
theorem dX8_lay_35 : decode cX8_lay 35 = .ok (.if_icmp .eq 10, 3) := by decide +kernel
theorem dX8_lay_38 : decode cX8_lay 38 = .ok (.aload_n 0, 1) := by decide +kernel
theorem dX8_lay_39 : decode cX8_lay 39 = .ok (.bipush (-3), 2) := by decide +kernel
theorem dX8_lay_41 : decode cX8_lay 41 = .ok (.invokevirtual 71, 3) := by decide +kernel
theorem dX8_lay_44 : decode cX8_lay 44 = .ok (.ireturn, 1) := by decide +kernel
theorem dX8_lay_45 : decode cX8_lay 45 = .ok (.aload_n 0, 1) := by decide +kernel
theorem dX8_lay_46 : decode cX8_lay 46 = .ok (.getfield 31, 3) := by decide +kernel
theorem dX8_lay_49 : decode cX8_lay 49 = .ok (.iload_n 2, 1) := by decide +kernel
theorem dX8_lay_50 : decode cX8_lay 50 = .ok (.aaload, 1) := by decide +kernel
theorem dX8_lay_51 : decode cX8_lay 51 = .ok (.bipush 7, 2) := by decide +kernel
theorem dX8_lay_53 : decode cX8_lay 53 = .ok (.aload_n 0, 1) := by decide +kernel
theorem dX8_lay_54 : decode cX8_lay 54 = .ok (.getfield 28, 3) := by decide +kernel
theorem dX8_lay_57 : decode cX8_lay 57 = .ok (.iload_n 1, 1) := by decide +kernel
theorem dX8_lay_58 : decode cX8_lay 58 = .ok (.aaload, 1) := by decide +kernel
theorem dX8_lay_59 : decode cX8_lay 59 = .ok (.iconst 5, 1) := by decide +kernel
theorem dX8_lay_60 : decode cX8_lay 60 = .ok (.iaload, 1) := by decide +kernel
theorem dX8_lay_61 : decode cX8_lay 61 = .ok (.iastore, 1) := by decide +kernel
theorem dX8_lay_62 : decode cX8_lay 62 = .ok (.aload_n 0, 1) := by decide +kernel
theorem dX8_lay_63 : decode cX8_lay 63 = .ok (.getfield 31, 3) := by decide +kernel
theorem dX8_lay_66 : decode cX8_lay 66 = .ok (.iload_n 2, 1) := by decide +kernel
theorem dX8_lay_67 : decode cX8_lay 67 = .ok (.aaload, 1) := by decide +kernel
theorem dX8_lay_68 : decode cX8_lay 68 = .ok (.bipush 8, 2) := by decide +kernel
theorem dX8_lay_70 : decode cX8_lay 70 = .ok (.aload_n 0, 1) := by decide +kernel
theorem dX8_lay_71 : decode cX8_lay 71 = .ok (.getfield 28, 3) := by decide +kernel
theorem dX8_lay_74 : decode cX8_lay 74 = .ok (.iload_n 1, 1) := by decide +kernel
theorem dX8_lay_75 : decode cX8_lay 75 = .ok (.aaload, 1) := by decide +kernel
theorem dX8_lay_76 : decode cX8_lay 76 = .ok (.bipush 6, 2) := by decide +kernel
theorem dX8_lay_78 : decode cX8_lay 78 = .ok (.iaload, 1) := by decide +kernel
theorem dX8_lay_79 : decode cX8_lay 79 = .ok (.iastore, 1) := by decide +kernel
theorem dX8_lay_80 : decode cX8_lay 80 = .ok (.aload_n 0, 1) := by decide +kernel
theorem dX8_lay_81 : decode cX8_lay 81 = .ok (.getfield 28, 3) := by decide +kernel
theorem dX8_lay_84 : decode cX8_lay 84 = .ok (.iload_n 1, 1) := by decide +kernel
theorem dX8_lay_85 : decode cX8_lay 85 = .ok (.aaload, 1) := by decide +kernel
theorem dX8_lay_86 : decode cX8_lay 86 = .ok (.bipush 6, 2) := by decide +kernel
theorem dX8_lay_88 : decode cX8_lay 88 = .ok (.iaload, 1) := by decide +kernel
theorem dX8_lay_89 : decode cX8_lay 89 = .ok (.ireturn, 1) := by decide +kernel
theorem dX8_hand_0 : decode cX8_hand 0 = .ok (.aload_n 0, 1) := by decide +kernel
theorem dX8_hand_1 : decode cX8_hand 1 = .ok (.iload_n 1, 1) := by decide +kernel
theorem dX8_hand_2 : decode cX8_hand 2 = .ok (.invokevirtual 108, 3) := by decide +kernel
theorem dX8_hand_5 : decode cX8_hand 5 = .ok (.ifCond .eq 24, 3) := by decide +kernel
theorem dX8_hand_8 : decode cX8_hand 8 = .ok (.aload_n 0, 1) := by decide +kernel
theorem dX8_hand_9 : decode cX8_hand 9 = .ok (.iload_n 2, 1) := by decide +kernel
theorem dX8_hand_10 : decode cX8_hand 10 = .ok (.invokevirtual 108, 3) := by decide +kernel
theorem dX8_hand_13 : decode cX8_hand 13 = .ok (.ifCond .eq 16, 3) := by decide +kernel
theorem dX8_hand_16 : decode cX8_hand 16 = .ok (.iload_n 1, 1) := by decide +kernel
theorem dX8_hand_17 : decode cX8_hand 17 = .ok (.iload_n 2, 1) := by decide +kernel
theorem dX8_hand_18 : decode cX8_hand 18 = .ok (.if_icmp .eq 11, 3) := by decide +kernel
theorem dX8_hand_21 : decode cX8_hand 21 = .ok (.aload_n 0, 1) := by decide +kernel
theorem dX8_hand_22 : decode cX8_hand 22 = .ok (.iload_n 3, 1) := by decide +kernel
theorem dX8_hand_23 : decode cX8_hand 23 = .ok (.invokevirtual 145, 3) := by decide +kernel
theorem dX8_hand_26 : decode cX8_hand 26 = .ok (.ifCond .ne 9, 3) := by decide +kernel
theorem dX8_hand_29 : decode cX8_hand 29 = .ok (.aload_n 0, 1) := by decide +kernel
theorem dX8_hand_30 : decode cX8_hand 30 = .ok (.iconst (-1), 1) := by decide +kernel
theorem dX8_hand_31 : decode cX8_hand 31 = .ok (.invokevirtual 71, 3) := by decide +kernel
theorem dX8_hand_34 : decode cX8_hand 34 = .ok (.ireturn, 1) := by decide +kernel
theorem dX8_hand_35 : decode cX8_hand 35 = .ok (.aload_n 0, 1) := by decide +kernel
theorem dX8_hand_36 : decode cX8_hand 36 = .ok (.getfield 28, 3) := by decide +kernel
theorem dX8_hand_39 : decode cX8_hand 39 = .ok (.iload_n 1, 1) := by decide +kernel
theorem dX8_hand_40 : decode cX8_hand 40 = .ok (.aaload, 1) := by decide +kernel
theorem dX8_hand_41 : decode cX8_hand 41 = .ok (.bipush 6, 2) := by decide +kernel
theorem dX8_hand_43 : decode cX8_hand 43 = .ok (.iaload, 1) := by decide +kernel
theorem dX8_hand_44 : decode cX8_hand 44 = .ok (.aload_n 0, 1) := by decide +kernel
theorem dX8_hand_45 : decode cX8_hand 45 = .ok (.getfield 28, 3) := by decide +kernel
theorem dX8_hand_48 : decode cX8_hand 48 = .ok (.iload_n 2, 1) := by decide +kernel
theorem dX8_hand_49 : decode cX8_hand 49 = .ok (.aaload, 1) := by decide +kernel
theorem dX8_hand_50 : decode cX8_hand 50 = .ok (.bipush 6, 2) := by decide +kernel
theorem dX8_hand_52 : decode cX8_hand 52 = .ok (.iaload, 1) := by decide +kernel
theorem dX8_hand_53 : decode cX8_hand 53 = .ok (.invokestatic 171, 3) := by decide +kernel
theorem dX8_hand_56 : decode cX8_hand 56 = .ok (.istore 4, 2) := by decide +kernel
theorem dX8_hand_58 : decode cX8_hand 58 = .ok (.aload_n 0, 1) := by decide +kernel
theorem dX8_hand_59 : decode cX8_hand 59 = .ok (.getfield 31, 3) := by decide +kernel
theorem dX8_hand_62 : decode cX8_hand 62 = .ok (.iload_n 3, 1) := by decide +kernel
theorem dX8_hand_63 : decode cX8_hand 63 = .ok (.aaload, 1) := by decide +kernel
theorem dX8_hand_64 : decode cX8_hand 64 = .ok (.bipush 7, 2) := by decide +kernel
theorem dX8_hand_66 : decode cX8_hand 66 = .ok (.iaload, 1) := by decide +kernel
theorem dX8_hand_67 : decode cX8_hand 67 = .ok (.bipush 10, 2) := by decide +kernel
theorem dX8_hand_69 : decode cX8_hand 69 = .ok (.iload_n 1, 1) := by decide +kernel
theorem dX8_hand_70 : decode cX8_hand 70 = .ok (.iadd, 1) := by decide +kernel
theorem dX8_hand_71 : decode cX8_hand 71 = .ok (.if_icmp .ne 42, 3) := by decide +kernel
theorem dX8_hand_74 : decode cX8_hand 74 = .ok (.aload_n 0, 1) := by decide +kernel
theorem dX8_hand_75 : decode cX8_hand 75 = .ok (.getfield 28, 3) := by decide +kernel
theorem dX8_hand_78 : decode cX8_hand 78 = .ok (.iload_n 1, 1) := by decide +kernel
theorem dX8_hand_79 : decode cX8_hand 79 = .ok (.aaload, 1) := by decide +kernel
theorem dX8_hand_80 : decode cX8_hand 80 = .ok (.iconst 5, 1) := by decide +kernel
theorem dX8_hand_81 : decode cX8_hand 81 = .ok (.iaload, 1) := by decide +kernel
theorem dX8_hand_82 : decode cX8_hand 82 = .ok (.aload_n 0, 1) := by decide +kernel
theorem dX8_hand_83 : decode cX8_hand 83 = .ok (.getfield 28, 3) := by decide +kernel
theorem dX8_hand_86 : decode cX8_hand 86 = .ok (.iload_n 2, 1) := by decide +kernel
theorem dX8_hand_87 : decode cX8_hand 87 = .ok (.aaload, 1) := by decide +kernel
theorem dX8_hand_88 : decode cX8_hand 88 = .ok (.iconst 5, 1) := by decide +kernel
theorem dX8_hand_89 : decode cX8_hand 89 = .ok (.iaload, 1) := by decide +kernel
theorem dX8_hand_90 : decode cX8_hand 90 = .ok (.if_icmp .ne 23, 3) := by decide +kernel
theorem dX8_hand_93 : decode cX8_hand 93 = .ok (.aload_n 0, 1) := by decide +kernel
theorem dX8_hand_94 : decode cX8_hand 94 = .ok (.iload_n 2, 1) := by decide +kernel
theorem dX8_hand_95 : decode cX8_hand 95 = .ok (.iload_n 3, 1) := by decide +kernel
theorem dX8_hand_96 : decode cX8_hand 96 = .ok (.iload 4, 2) := by decide +kernel
theorem dX8_hand_98 : decode cX8_hand 98 = .ok (.invokevirtual 165, 3) := by decide +kernel
theorem dX8_hand_101 : decode cX8_hand 101 = .ok (.ifCond .eq 12, 3) := by decide +kernel
theorem dX8_hand_104 : decode cX8_hand 104 = .ok (.aload_n 0, 1) := by decide +kernel
theorem dX8_hand_105 : decode cX8_hand 105 = .ok (.iload_n 2, 1) := by decide +kernel
theorem dX8_hand_106 : decode cX8_hand 106 = .ok (.iload_n 3, 1) := by decide +kernel
theorem dX8_hand_107 : decode cX8_hand 107 = .ok (.invokevirtual 175, 3) := by decide +kernel
theorem dX8_hand_110 : decode cX8_hand 110 = .ok (.ifCond .ne 10, 3) := by decide +kernel
theorem dX8_hand_113 : decode cX8_hand 113 = .ok (.aload_n 0, 1) := by decide +kernel
theorem dX8_hand_114 : decode cX8_hand 114 = .ok (.bipush (-3), 2) := by decide +kernel
theorem dX8_hand_116 : decode cX8_hand 116 = .ok (.invokevirtual 71, 3) := by decide +kernel
theorem dX8_hand_119 : decode cX8_hand 119 = .ok (.ireturn, 1) := by decide +kernel
theorem dX8_hand_120 : decode cX8_hand 120 = .ok (.aload_n 0, 1) := by decide +kernel
theorem dX8_hand_121 : decode cX8_hand 121 = .ok (.getfield 28, 3) := by decide +kernel
theorem dX8_hand_124 : decode cX8_hand 124 = .ok (.iload_n 1, 1) := by decide +kernel
theorem dX8_hand_125 : decode cX8_hand 125 = .ok (.aaload, 1) := by decide +kernel
theorem dX8_hand_126 : decode cX8_hand 126 = .ok (.bipush 6, 2) := by decide +kernel
theorem dX8_hand_128 : decode cX8_hand 128 = .ok (.iload 4, 2) := by decide +kernel
theorem dX8_hand_130 : decode cX8_hand 130 = .ok (.iastore, 1) := by decide +kernel
theorem dX8_hand_131 : decode cX8_hand 131 = .ok (.aload_n 0, 1) := by decide +kernel
theorem dX8_hand_132 : decode cX8_hand 132 = .ok (.getfield 28, 3) := by decide +kernel
theorem dX8_hand_135 : decode cX8_hand 135 = .ok (.iload_n 2, 1) := by decide +kernel
theorem dX8_hand_136 : decode cX8_hand 136 = .ok (.aaload, 1) := by decide +kernel
theorem dX8_hand_137 : decode cX8_hand 137 = .ok (.bipush 6, 2) := by decide +kernel
theorem dX8_hand_139 : decode cX8_hand 139 = .ok (.iload 4, 2) := by decide +kernel
theorem dX8_hand_141 : decode cX8_hand 141 = .ok (.iastore, 1) := by decide +kernel
theorem dX8_hand_142 : decode cX8_hand 142 = .ok (.aload_n 0, 1) := by decide +kernel
theorem dX8_hand_143 : decode cX8_hand 143 = .ok (.getfield 31, 3) := by decide +kernel
theorem dX8_hand_146 : decode cX8_hand 146 = .ok (.iload_n 3, 1) := by decide +kernel
theorem dX8_hand_147 : decode cX8_hand 147 = .ok (.aaload, 1) := by decide +kernel
theorem dX8_hand_148 : decode cX8_hand 148 = .ok (.bipush 7, 2) := by decide +kernel
theorem dX8_hand_150 : decode cX8_hand 150 = .ok (.bipush 10, 2) := by decide +kernel
theorem dX8_hand_152 : decode cX8_hand 152 = .ok (.iload_n 2, 1) := by decide +kernel
theorem dX8_hand_153 : decode cX8_hand 153 = .ok (.iadd, 1) := by decide +kernel
theorem dX8_hand_154 : decode cX8_hand 154 = .ok (.iastore, 1) := by decide +kernel
theorem dX8_hand_155 : decode cX8_hand 155 = .ok (.iload 4, 2) := by decide +kernel
theorem dX8_hand_157 : decode cX8_hand 157 = .ok (.ireturn, 1) := by decide +kernel
theorem dX8_tarry_0 : decode cX8_tarry 0 = .ok (.aload_n 0, 1) := by decide +kernel
theorem dX8_tarry_1 : decode cX8_tarry 1 = .ok (.iload_n 1, 1) := by decide +kernel
theorem dX8_tarry_2 : decode cX8_tarry 2 = .ok (.invokevirtual 108, 3) := by decide +kernel
theorem dX8_tarry_5 : decode cX8_tarry 5 = .ok (.ifCond .ne 9, 3) := by decide +kernel
theorem dX8_tarry_8 : decode cX8_tarry 8 = .ok (.aload_n 0, 1) := by decide +kernel
theorem dX8_tarry_9 : decode cX8_tarry 9 = .ok (.iconst (-1), 1) := by decide +kernel
theorem dX8_tarry_10 : decode cX8_tarry 10 = .ok (.invokevirtual 71, 3) := by decide +kernel
theorem dX8_tarry_13 : decode cX8_tarry 13 = .ok (.ireturn, 1) := by decide +kernel
theorem dX8_tarry_14 : decode cX8_tarry 14 = .ok (.iload_n 2, 1) := by decide +kernel
theorem dX8_tarry_15 : decode cX8_tarry 15 = .ok (.iconst 1, 1) := by decide +kernel
theorem dX8_tarry_16 : decode cX8_tarry 16 = .ok (.if_icmp .ge 10, 3) := by decide +kernel
theorem dX8_tarry_19 : decode cX8_tarry 19 = .ok (.aload_n 0, 1) := by decide +kernel
theorem dX8_tarry_20 : decode cX8_tarry 20 = .ok (.bipush (-4), 2) := by decide +kernel
theorem dX8_tarry_22 : decode cX8_tarry 22 = .ok (.invokevirtual 71, 3) := by decide +kernel
theorem dX8_tarry_25 : decode cX8_tarry 25 = .ok (.ireturn, 1) := by decide +kernel
theorem dX8_tarry_26 : decode cX8_tarry 26 = .ok (.iload_n 2, 1) := by decide +kernel
theorem dX8_tarry_27 : decode cX8_tarry 27 = .ok (.sipush 600, 3) := by decide +kernel
theorem dX8_tarry_30 : decode cX8_tarry 30 = .ok (.if_icmp .le 10, 3) := by decide +kernel
theorem dX8_tarry_33 : decode cX8_tarry 33 = .ok (.aload_n 0, 1) := by decide +kernel
theorem dX8_tarry_34 : decode cX8_tarry 34 = .ok (.bipush (-6), 2) := by decide +kernel
theorem dX8_tarry_36 : decode cX8_tarry 36 = .ok (.invokevirtual 71, 3) := by decide +kernel
theorem dX8_tarry_39 : decode cX8_tarry 39 = .ok (.ireturn, 1) := by decide +kernel
theorem dX8_tarry_40 : decode cX8_tarry 40 = .ok (.aload_n 0, 1) := by decide +kernel
theorem dX8_tarry_41 : decode cX8_tarry 41 = .ok (.getfield 28, 3) := by decide +kernel
theorem dX8_tarry_44 : decode cX8_tarry 44 = .ok (.iload_n 1, 1) := by decide +kernel
theorem dX8_tarry_45 : decode cX8_tarry 45 = .ok (.aaload, 1) := by decide +kernel
theorem dX8_tarry_46 : decode cX8_tarry 46 = .ok (.bipush 6, 2) := by decide +kernel
theorem dX8_tarry_48 : decode cX8_tarry 48 = .ok (.dup2, 1) := by decide +kernel
theorem dX8_tarry_49 : decode cX8_tarry 49 = .ok (.iaload, 1) := by decide +kernel
theorem dX8_tarry_50 : decode cX8_tarry 50 = .ok (.iload_n 2, 1) := by decide +kernel
theorem dX8_tarry_51 : decode cX8_tarry 51 = .ok (.iadd, 1) := by decide +kernel
theorem dX8_tarry_52 : decode cX8_tarry 52 = .ok (.iastore, 1) := by decide +kernel
theorem dX8_tarry_53 : decode cX8_tarry 53 = .ok (.aload_n 0, 1) := by decide +kernel
theorem dX8_tarry_54 : decode cX8_tarry 54 = .ok (.getfield 28, 3) := by decide +kernel
theorem dX8_tarry_57 : decode cX8_tarry 57 = .ok (.iload_n 1, 1) := by decide +kernel
theorem dX8_tarry_58 : decode cX8_tarry 58 = .ok (.aaload, 1) := by decide +kernel
theorem dX8_tarry_59 : decode cX8_tarry 59 = .ok (.bipush 6, 2) := by decide +kernel
end
section
theorem dX8_tarry_61 : decode cX8_tarry 61 = .ok (.iaload, 1) := by decide +kernel
theorem dX8_tarry_62 : decode cX8_tarry 62 = .ok (.ireturn, 1) := by decide +kernel
theorem dX8_give_0 : decode cX8_give 0 = .ok (.aload_n 0, 1) := by decide +kernel
theorem dX8_give_1 : decode cX8_give 1 = .ok (.iload_n 1, 1) := by decide +kernel
theorem dX8_give_2 : decode cX8_give 2 = .ok (.invokevirtual 108, 3) := by decide +kernel
theorem dX8_give_5 : decode cX8_give 5 = .ok (.ifCond .eq 11, 3) := by decide +kernel
theorem dX8_give_8 : decode cX8_give 8 = .ok (.aload_n 0, 1) := by decide +kernel
theorem dX8_give_9 : decode cX8_give 9 = .ok (.iload_n 2, 1) := by decide +kernel
theorem dX8_give_10 : decode cX8_give 10 = .ok (.invokevirtual 145, 3) := by decide +kernel
theorem dX8_give_13 : decode cX8_give 13 = .ok (.ifCond .ne 9, 3) := by decide +kernel
theorem dX8_give_16 : decode cX8_give 16 = .ok (.aload_n 0, 1) := by decide +kernel
theorem dX8_give_17 : decode cX8_give 17 = .ok (.iconst (-1), 1) := by decide +kernel
theorem dX8_give_18 : decode cX8_give 18 = .ok (.invokevirtual 71, 3) := by decide +kernel
theorem dX8_give_21 : decode cX8_give 21 = .ok (.ireturn, 1) := by decide +kernel
theorem dX8_give_22 : decode cX8_give 22 = .ok (.aload_n 0, 1) := by decide +kernel
theorem dX8_give_23 : decode cX8_give 23 = .ok (.iload_n 1, 1) := by decide +kernel
theorem dX8_give_24 : decode cX8_give 24 = .ok (.iload_n 2, 1) := by decide +kernel
theorem dX8_give_25 : decode cX8_give 25 = .ok (.invokevirtual 151, 3) := by decide +kernel
theorem dX8_give_28 : decode cX8_give 28 = .ok (.ifCond .ne 10, 3) := by decide +kernel
theorem dX8_give_31 : decode cX8_give 31 = .ok (.aload_n 0, 1) := by decide +kernel
theorem dX8_give_32 : decode cX8_give 32 = .ok (.bipush (-3), 2) := by decide +kernel
theorem dX8_give_34 : decode cX8_give 34 = .ok (.invokevirtual 71, 3) := by decide +kernel
theorem dX8_give_37 : decode cX8_give 37 = .ok (.ireturn, 1) := by decide +kernel
theorem dX8_give_38 : decode cX8_give 38 = .ok (.aload_n 0, 1) := by decide +kernel
theorem dX8_give_39 : decode cX8_give 39 = .ok (.getfield 31, 3) := by decide +kernel
theorem dX8_give_42 : decode cX8_give 42 = .ok (.iload_n 2, 1) := by decide +kernel
theorem dX8_give_43 : decode cX8_give 43 = .ok (.aaload, 1) := by decide +kernel
theorem dX8_give_44 : decode cX8_give 44 = .ok (.bipush 9, 2) := by decide +kernel
theorem dX8_give_46 : decode cX8_give 46 = .ok (.aload_n 0, 1) := by decide +kernel
theorem dX8_give_47 : decode cX8_give 47 = .ok (.getfield 28, 3) := by decide +kernel
theorem dX8_give_50 : decode cX8_give 50 = .ok (.iload_n 1, 1) := by decide +kernel
theorem dX8_give_51 : decode cX8_give 51 = .ok (.aaload, 1) := by decide +kernel
theorem dX8_give_52 : decode cX8_give 52 = .ok (.bipush 6, 2) := by decide +kernel
theorem dX8_give_54 : decode cX8_give 54 = .ok (.iaload, 1) := by decide +kernel
theorem dX8_give_55 : decode cX8_give 55 = .ok (.iastore, 1) := by decide +kernel
theorem dX8_give_56 : decode cX8_give 56 = .ok (.aload_n 0, 1) := by decide +kernel
theorem dX8_give_57 : decode cX8_give 57 = .ok (.getfield 28, 3) := by decide +kernel
theorem dX8_give_60 : decode cX8_give 60 = .ok (.iload_n 1, 1) := by decide +kernel
theorem dX8_give_61 : decode cX8_give 61 = .ok (.aaload, 1) := by decide +kernel
theorem dX8_give_62 : decode cX8_give 62 = .ok (.bipush 6, 2) := by decide +kernel
theorem dX8_give_64 : decode cX8_give 64 = .ok (.iaload, 1) := by decide +kernel
theorem dX8_give_65 : decode cX8_give 65 = .ok (.ireturn, 1) := by decide +kernel
theorem dX8_there_0 : decode cX8_there 0 = .ok (.iconst 0, 1) := by decide +kernel
theorem dX8_there_1 : decode cX8_there 1 = .ok (.istore_n 1, 1) := by decide +kernel
theorem dX8_there_2 : decode cX8_there 2 = .ok (.iconst 0, 1) := by decide +kernel
theorem dX8_there_3 : decode cX8_there 3 = .ok (.istore_n 2, 1) := by decide +kernel
theorem dX8_there_4 : decode cX8_there 4 = .ok (.iload_n 2, 1) := by decide +kernel
theorem dX8_there_5 : decode cX8_there 5 = .ok (.aload_n 0, 1) := by decide +kernel
theorem dX8_there_6 : decode cX8_there 6 = .ok (.getfield 68, 3) := by decide +kernel
theorem dX8_there_9 : decode cX8_there 9 = .ok (.if_icmp .ge 57, 3) := by decide +kernel
theorem dX8_there_12 : decode cX8_there 12 = .ok (.iload_n 1, 1) := by decide +kernel
theorem dX8_there_13 : decode cX8_there 13 = .ok (.aload_n 0, 1) := by decide +kernel
theorem dX8_there_14 : decode cX8_there 14 = .ok (.getfield 31, 3) := by decide +kernel
theorem dX8_there_17 : decode cX8_there 17 = .ok (.iload_n 2, 1) := by decide +kernel
theorem dX8_there_18 : decode cX8_there 18 = .ok (.aaload, 1) := by decide +kernel
theorem dX8_there_19 : decode cX8_there 19 = .ok (.bipush 7, 2) := by decide +kernel
theorem dX8_there_21 : decode cX8_there 21 = .ok (.iaload, 1) := by decide +kernel
theorem dX8_there_22 : decode cX8_there 22 = .ok (.aload_n 0, 1) := by decide +kernel
theorem dX8_there_23 : decode cX8_there 23 = .ok (.getfield 31, 3) := by decide +kernel
theorem dX8_there_26 : decode cX8_there 26 = .ok (.iload_n 2, 1) := by decide +kernel
theorem dX8_there_27 : decode cX8_there 27 = .ok (.aaload, 1) := by decide +kernel
theorem dX8_there_28 : decode cX8_there 28 = .ok (.iconst 3, 1) := by decide +kernel
theorem dX8_there_29 : decode cX8_there 29 = .ok (.iaload, 1) := by decide +kernel
theorem dX8_there_30 : decode cX8_there 30 = .ok (.if_icmp .ne 27, 3) := by decide +kernel
theorem dX8_there_33 : decode cX8_there 33 = .ok (.aload_n 0, 1) := by decide +kernel
theorem dX8_there_34 : decode cX8_there 34 = .ok (.getfield 31, 3) := by decide +kernel
theorem dX8_there_37 : decode cX8_there 37 = .ok (.iload_n 2, 1) := by decide +kernel
theorem dX8_there_38 : decode cX8_there 38 = .ok (.aaload, 1) := by decide +kernel
theorem dX8_there_39 : decode cX8_there 39 = .ok (.bipush 8, 2) := by decide +kernel
theorem dX8_there_41 : decode cX8_there 41 = .ok (.iaload, 1) := by decide +kernel
theorem dX8_there_42 : decode cX8_there 42 = .ok (.aload_n 0, 1) := by decide +kernel
theorem dX8_there_43 : decode cX8_there 43 = .ok (.getfield 31, 3) := by decide +kernel
theorem dX8_there_46 : decode cX8_there 46 = .ok (.iload_n 2, 1) := by decide +kernel
theorem dX8_there_47 : decode cX8_there 47 = .ok (.aaload, 1) := by decide +kernel
theorem dX8_there_48 : decode cX8_there 48 = .ok (.iconst 5, 1) := by decide +kernel
theorem dX8_there_49 : decode cX8_there 49 = .ok (.iaload, 1) := by decide +kernel
theorem dX8_there_50 : decode cX8_there 50 = .ok (.if_icmp .gt 7, 3) := by decide +kernel
theorem dX8_there_53 : decode cX8_there 53 = .ok (.iconst 1, 1) := by decide +kernel
theorem dX8_there_54 : decode cX8_there 54 = .ok (.goto 4, 3) := by decide +kernel
theorem dX8_there_57 : decode cX8_there 57 = .ok (.iconst 0, 1) := by decide +kernel
theorem dX8_there_58 : decode cX8_there 58 = .ok (.iadd, 1) := by decide +kernel
theorem dX8_there_59 : decode cX8_there 59 = .ok (.istore_n 1, 1) := by decide +kernel
theorem dX8_there_60 : decode cX8_there 60 = .ok (.iinc 2 1, 3) := by decide +kernel
theorem dX8_there_63 : decode cX8_there 63 = .ok (.goto (-59), 3) := by decide +kernel
theorem dX8_there_66 : decode cX8_there 66 = .ok (.iload_n 1, 1) := by decide +kernel
theorem dX8_there_67 : decode cX8_there 67 = .ok (.ireturn, 1) := by decide +kernel
theorem dX8_findWays_0 : decode cX8_findWays 0 = .ok (.aload_n 0, 1) := by decide +kernel
theorem dX8_findWays_1 : decode cX8_findWays 1 = .ok (.invokevirtual 139, 3) := by decide +kernel
theorem dX8_findWays_4 : decode cX8_findWays 4 = .ok (.iconst 0, 1) := by decide +kernel
theorem dX8_findWays_5 : decode cX8_findWays 5 = .ok (.istore_n 1, 1) := by decide +kernel
theorem dX8_findWays_6 : decode cX8_findWays 6 = .ok (.iload_n 1, 1) := by decide +kernel
theorem dX8_findWays_7 : decode cX8_findWays 7 = .ok (.aload_n 0, 1) := by decide +kernel
theorem dX8_findWays_8 : decode cX8_findWays 8 = .ok (.getfield 65, 3) := by decide +kernel
theorem dX8_findWays_11 : decode cX8_findWays 11 = .ok (.if_icmp .ge 199, 3) := by decide +kernel
theorem dX8_findWays_14 : decode cX8_findWays 14 = .ok (.aload_n 0, 1) := by decide +kernel
theorem dX8_findWays_15 : decode cX8_findWays 15 = .ok (.getfield 28, 3) := by decide +kernel
theorem dX8_findWays_18 : decode cX8_findWays 18 = .ok (.iload_n 1, 1) := by decide +kernel
theorem dX8_findWays_19 : decode cX8_findWays 19 = .ok (.aaload, 1) := by decide +kernel
theorem dX8_findWays_20 : decode cX8_findWays 20 = .ok (.iconst 0, 1) := by decide +kernel
theorem dX8_findWays_21 : decode cX8_findWays 21 = .ok (.iaload, 1) := by decide +kernel
theorem dX8_findWays_22 : decode cX8_findWays 22 = .ok (.istore_n 2, 1) := by decide +kernel
theorem dX8_findWays_23 : decode cX8_findWays 23 = .ok (.aload_n 0, 1) := by decide +kernel
theorem dX8_findWays_24 : decode cX8_findWays 24 = .ok (.getfield 28, 3) := by decide +kernel
theorem dX8_findWays_27 : decode cX8_findWays 27 = .ok (.iload_n 1, 1) := by decide +kernel
theorem dX8_findWays_28 : decode cX8_findWays 28 = .ok (.aaload, 1) := by decide +kernel
theorem dX8_findWays_29 : decode cX8_findWays 29 = .ok (.iconst 1, 1) := by decide +kernel
theorem dX8_findWays_30 : decode cX8_findWays 30 = .ok (.iaload, 1) := by decide +kernel
theorem dX8_findWays_31 : decode cX8_findWays 31 = .ok (.istore_n 3, 1) := by decide +kernel
theorem dX8_findWays_32 : decode cX8_findWays 32 = .ok (.aload_n 0, 1) := by decide +kernel
theorem dX8_findWays_33 : decode cX8_findWays 33 = .ok (.getfield 28, 3) := by decide +kernel
theorem dX8_findWays_36 : decode cX8_findWays 36 = .ok (.iload_n 1, 1) := by decide +kernel
theorem dX8_findWays_37 : decode cX8_findWays 37 = .ok (.aaload, 1) := by decide +kernel
theorem dX8_findWays_38 : decode cX8_findWays 38 = .ok (.iconst 2, 1) := by decide +kernel
theorem dX8_findWays_39 : decode cX8_findWays 39 = .ok (.iaload, 1) := by decide +kernel
theorem dX8_findWays_40 : decode cX8_findWays 40 = .ok (.istore 4, 2) := by decide +kernel
theorem dX8_findWays_42 : decode cX8_findWays 42 = .ok (.aload_n 0, 1) := by decide +kernel
theorem dX8_findWays_43 : decode cX8_findWays 43 = .ok (.getfield 46, 3) := by decide +kernel
theorem dX8_findWays_46 : decode cX8_findWays 46 = .ok (.iload_n 1, 1) := by decide +kernel
theorem dX8_findWays_47 : decode cX8_findWays 47 = .ok (.iconst 0, 1) := by decide +kernel
theorem dX8_findWays_48 : decode cX8_findWays 48 = .ok (.iastore, 1) := by decide +kernel
theorem dX8_findWays_49 : decode cX8_findWays 49 = .ok (.aload_n 0, 1) := by decide +kernel
theorem dX8_findWays_50 : decode cX8_findWays 50 = .ok (.getfield 37, 3) := by decide +kernel
theorem dX8_findWays_53 : decode cX8_findWays 53 = .ok (.iload_n 2, 1) := by decide +kernel
theorem dX8_findWays_54 : decode cX8_findWays 54 = .ok (.aaload, 1) := by decide +kernel
theorem dX8_findWays_55 : decode cX8_findWays 55 = .ok (.iload_n 3, 1) := by decide +kernel
theorem dX8_findWays_56 : decode cX8_findWays 56 = .ok (.iaload, 1) := by decide +kernel
theorem dX8_findWays_57 : decode cX8_findWays 57 = .ok (.ldc 138, 2) := by decide +kernel
theorem dX8_findWays_59 : decode cX8_findWays 59 = .ok (.if_icmp .ge 145, 3) := by decide +kernel
theorem dX8_findWays_62 : decode cX8_findWays 62 = .ok (.aload_n 0, 1) := by decide +kernel
theorem dX8_findWays_63 : decode cX8_findWays 63 = .ok (.getfield 40, 3) := by decide +kernel
theorem dX8_findWays_66 : decode cX8_findWays 66 = .ok (.iload_n 1, 1) := by decide +kernel
theorem dX8_findWays_67 : decode cX8_findWays 67 = .ok (.aaload, 1) := by decide +kernel
theorem dX8_findWays_68 : decode cX8_findWays 68 = .ok (.iconst 0, 1) := by decide +kernel
theorem dX8_findWays_69 : decode cX8_findWays 69 = .ok (.iload_n 2, 1) := by decide +kernel
theorem dX8_findWays_70 : decode cX8_findWays 70 = .ok (.iastore, 1) := by decide +kernel
theorem dX8_findWays_71 : decode cX8_findWays 71 = .ok (.aload_n 0, 1) := by decide +kernel
theorem dX8_findWays_72 : decode cX8_findWays 72 = .ok (.getfield 43, 3) := by decide +kernel
theorem dX8_findWays_75 : decode cX8_findWays 75 = .ok (.iload_n 1, 1) := by decide +kernel
theorem dX8_findWays_76 : decode cX8_findWays 76 = .ok (.aaload, 1) := by decide +kernel
theorem dX8_findWays_77 : decode cX8_findWays 77 = .ok (.iconst 0, 1) := by decide +kernel
theorem dX8_findWays_78 : decode cX8_findWays 78 = .ok (.iload 4, 2) := by decide +kernel
theorem dX8_findWays_80 : decode cX8_findWays 80 = .ok (.iastore, 1) := by decide +kernel
theorem dX8_findWays_81 : decode cX8_findWays 81 = .ok (.aload_n 0, 1) := by decide +kernel
theorem dX8_findWays_82 : decode cX8_findWays 82 = .ok (.getfield 46, 3) := by decide +kernel
theorem dX8_findWays_85 : decode cX8_findWays 85 = .ok (.iload_n 1, 1) := by decide +kernel
theorem dX8_findWays_86 : decode cX8_findWays 86 = .ok (.iconst 1, 1) := by decide +kernel
theorem dX8_findWays_87 : decode cX8_findWays 87 = .ok (.iastore, 1) := by decide +kernel
theorem dX8_findWays_88 : decode cX8_findWays 88 = .ok (.iload_n 2, 1) := by decide +kernel
theorem dX8_findWays_89 : decode cX8_findWays 89 = .ok (.iload_n 3, 1) := by decide +kernel
theorem dX8_findWays_90 : decode cX8_findWays 90 = .ok (.if_icmp .eq 114, 3) := by decide +kernel
theorem dX8_findWays_93 : decode cX8_findWays 93 = .ok (.iconst 0, 1) := by decide +kernel
theorem dX8_findWays_94 : decode cX8_findWays 94 = .ok (.istore 5, 2) := by decide +kernel
theorem dX8_findWays_96 : decode cX8_findWays 96 = .ok (.iload 5, 2) := by decide +kernel
theorem dX8_findWays_98 : decode cX8_findWays 98 = .ok (.iload_n 2, 1) := by decide +kernel
theorem dX8_findWays_99 : decode cX8_findWays 99 = .ok (.if_icmp .eq 45, 3) := by decide +kernel
theorem dX8_findWays_102 : decode cX8_findWays 102 = .ok (.aload_n 0, 1) := by decide +kernel
theorem dX8_findWays_103 : decode cX8_findWays 103 = .ok (.getfield 25, 3) := by decide +kernel
theorem dX8_findWays_106 : decode cX8_findWays 106 = .ok (.iload_n 2, 1) := by decide +kernel
theorem dX8_findWays_107 : decode cX8_findWays 107 = .ok (.aaload, 1) := by decide +kernel
theorem dX8_findWays_108 : decode cX8_findWays 108 = .ok (.iload 5, 2) := by decide +kernel
theorem dX8_findWays_110 : decode cX8_findWays 110 = .ok (.iaload, 1) := by decide +kernel
theorem dX8_findWays_111 : decode cX8_findWays 111 = .ok (.ifCond .eq 33, 3) := by decide +kernel
theorem dX8_findWays_114 : decode cX8_findWays 114 = .ok (.aload_n 0, 1) := by decide +kernel
theorem dX8_findWays_115 : decode cX8_findWays 115 = .ok (.getfield 25, 3) := by decide +kernel
theorem dX8_findWays_118 : decode cX8_findWays 118 = .ok (.iload_n 2, 1) := by decide +kernel
theorem dX8_findWays_119 : decode cX8_findWays 119 = .ok (.aaload, 1) := by decide +kernel
theorem dX8_findWays_120 : decode cX8_findWays 120 = .ok (.iload 5, 2) := by decide +kernel
theorem dX8_findWays_122 : decode cX8_findWays 122 = .ok (.iaload, 1) := by decide +kernel
theorem dX8_findWays_123 : decode cX8_findWays 123 = .ok (.aload_n 0, 1) := by decide +kernel
theorem dX8_findWays_124 : decode cX8_findWays 124 = .ok (.getfield 37, 3) := by decide +kernel
theorem dX8_findWays_127 : decode cX8_findWays 127 = .ok (.iload 5, 2) := by decide +kernel
theorem dX8_findWays_129 : decode cX8_findWays 129 = .ok (.aaload, 1) := by decide +kernel
theorem dX8_findWays_130 : decode cX8_findWays 130 = .ok (.iload_n 3, 1) := by decide +kernel
theorem dX8_findWays_131 : decode cX8_findWays 131 = .ok (.iaload, 1) := by decide +kernel
theorem dX8_findWays_132 : decode cX8_findWays 132 = .ok (.iadd, 1) := by decide +kernel
theorem dX8_findWays_133 : decode cX8_findWays 133 = .ok (.aload_n 0, 1) := by decide +kernel
theorem dX8_findWays_134 : decode cX8_findWays 134 = .ok (.getfield 37, 3) := by decide +kernel
theorem dX8_findWays_137 : decode cX8_findWays 137 = .ok (.iload_n 2, 1) := by decide +kernel
theorem dX8_findWays_138 : decode cX8_findWays 138 = .ok (.aaload, 1) := by decide +kernel
theorem dX8_findWays_139 : decode cX8_findWays 139 = .ok (.iload_n 3, 1) := by decide +kernel
theorem dX8_findWays_140 : decode cX8_findWays 140 = .ok (.iaload, 1) := by decide +kernel
theorem dX8_findWays_141 : decode cX8_findWays 141 = .ok (.if_icmp .eq 9, 3) := by decide +kernel
theorem dX8_findWays_144 : decode cX8_findWays 144 = .ok (.iinc 5 1, 3) := by decide +kernel
theorem dX8_findWays_147 : decode cX8_findWays 147 = .ok (.goto (-51), 3) := by decide +kernel
theorem dX8_findWays_150 : decode cX8_findWays 150 = .ok (.iload 4, 2) := by decide +kernel
theorem dX8_findWays_152 : decode cX8_findWays 152 = .ok (.aload_n 0, 1) := by decide +kernel
theorem dX8_findWays_153 : decode cX8_findWays 153 = .ok (.getfield 25, 3) := by decide +kernel
theorem dX8_findWays_156 : decode cX8_findWays 156 = .ok (.iload_n 2, 1) := by decide +kernel
theorem dX8_findWays_157 : decode cX8_findWays 157 = .ok (.aaload, 1) := by decide +kernel
theorem dX8_findWays_158 : decode cX8_findWays 158 = .ok (.iload 5, 2) := by decide +kernel
theorem dX8_findWays_160 : decode cX8_findWays 160 = .ok (.iaload, 1) := by decide +kernel
theorem dX8_findWays_161 : decode cX8_findWays 161 = .ok (.iadd, 1) := by decide +kernel
theorem dX8_findWays_162 : decode cX8_findWays 162 = .ok (.istore 4, 2) := by decide +kernel
theorem dX8_findWays_164 : decode cX8_findWays 164 = .ok (.iload 5, 2) := by decide +kernel
theorem dX8_findWays_166 : decode cX8_findWays 166 = .ok (.istore_n 2, 1) := by decide +kernel
theorem dX8_findWays_167 : decode cX8_findWays 167 = .ok (.aload_n 0, 1) := by decide +kernel
theorem dX8_findWays_168 : decode cX8_findWays 168 = .ok (.getfield 40, 3) := by decide +kernel
theorem dX8_findWays_171 : decode cX8_findWays 171 = .ok (.iload_n 1, 1) := by decide +kernel
theorem dX8_findWays_172 : decode cX8_findWays 172 = .ok (.aaload, 1) := by decide +kernel
theorem dX8_findWays_173 : decode cX8_findWays 173 = .ok (.aload_n 0, 1) := by decide +kernel
theorem dX8_findWays_174 : decode cX8_findWays 174 = .ok (.getfield 46, 3) := by decide +kernel
theorem dX8_findWays_177 : decode cX8_findWays 177 = .ok (.iload_n 1, 1) := by decide +kernel
theorem dX8_findWays_178 : decode cX8_findWays 178 = .ok (.iaload, 1) := by decide +kernel
theorem dX8_findWays_179 : decode cX8_findWays 179 = .ok (.iload_n 2, 1) := by decide +kernel
theorem dX8_findWays_180 : decode cX8_findWays 180 = .ok (.iastore, 1) := by decide +kernel
theorem dX8_findWays_181 : decode cX8_findWays 181 = .ok (.aload_n 0, 1) := by decide +kernel
theorem dX8_findWays_182 : decode cX8_findWays 182 = .ok (.getfield 43, 3) := by decide +kernel
theorem dX8_findWays_185 : decode cX8_findWays 185 = .ok (.iload_n 1, 1) := by decide +kernel
theorem dX8_findWays_186 : decode cX8_findWays 186 = .ok (.aaload, 1) := by decide +kernel
theorem dX8_findWays_187 : decode cX8_findWays 187 = .ok (.aload_n 0, 1) := by decide +kernel
theorem dX8_findWays_188 : decode cX8_findWays 188 = .ok (.getfield 46, 3) := by decide +kernel
theorem dX8_findWays_191 : decode cX8_findWays 191 = .ok (.iload_n 1, 1) := by decide +kernel
theorem dX8_findWays_192 : decode cX8_findWays 192 = .ok (.dup2, 1) := by decide +kernel
theorem dX8_findWays_193 : decode cX8_findWays 193 = .ok (.iaload, 1) := by decide +kernel
theorem dX8_findWays_194 : decode cX8_findWays 194 = .ok (.dup_x2, 1) := by decide +kernel
theorem dX8_findWays_195 : decode cX8_findWays 195 = .ok (.iconst 1, 1) := by decide +kernel
theorem dX8_findWays_196 : decode cX8_findWays 196 = .ok (.iadd, 1) := by decide +kernel
theorem dX8_findWays_197 : decode cX8_findWays 197 = .ok (.iastore, 1) := by decide +kernel
theorem dX8_findWays_198 : decode cX8_findWays 198 = .ok (.iload 4, 2) := by decide +kernel
theorem dX8_findWays_200 : decode cX8_findWays 200 = .ok (.iastore, 1) := by decide +kernel
theorem dX8_findWays_201 : decode cX8_findWays 201 = .ok (.goto (-113), 3) := by decide +kernel
theorem dX8_findWays_204 : decode cX8_findWays 204 = .ok (.iinc 1 1, 3) := by decide +kernel
theorem dX8_findWays_207 : decode cX8_findWays 207 = .ok (.goto (-201), 3) := by decide +kernel
theorem dX8_findWays_210 : decode cX8_findWays 210 = .ok (.return_, 1) := by decide +kernel
theorem dX8_mayInMind_0 : decode cX8_mayInMind 0 = .ok (.aload_n 0, 1) := by decide +kernel
theorem dX8_mayInMind_1 : decode cX8_mayInMind 1 = .ok (.iload_n 2, 1) := by decide +kernel
theorem dX8_mayInMind_2 : decode cX8_mayInMind 2 = .ok (.iload_n 3, 1) := by decide +kernel
theorem dX8_mayInMind_3 : decode cX8_mayInMind 3 = .ok (.invokevirtual 158, 3) := by decide +kernel
theorem dX8_mayInMind_6 : decode cX8_mayInMind 6 = .ok (.ifCond .eq 27, 3) := by decide +kernel
theorem dX8_mayInMind_9 : decode cX8_mayInMind 9 = .ok (.iload_n 2, 1) := by decide +kernel
theorem dX8_mayInMind_10 : decode cX8_mayInMind 10 = .ok (.iload 5, 2) := by decide +kernel
theorem dX8_mayInMind_12 : decode cX8_mayInMind 12 = .ok (.if_icmp .eq 17, 3) := by decide +kernel
theorem dX8_mayInMind_15 : decode cX8_mayInMind 15 = .ok (.aload_n 0, 1) := by decide +kernel
theorem dX8_mayInMind_16 : decode cX8_mayInMind 16 = .ok (.iload_n 1, 1) := by decide +kernel
theorem dX8_mayInMind_17 : decode cX8_mayInMind 17 = .ok (.iload_n 2, 1) := by decide +kernel
theorem dX8_mayInMind_18 : decode cX8_mayInMind 18 = .ok (.iload_n 3, 1) := by decide +kernel
theorem dX8_mayInMind_19 : decode cX8_mayInMind 19 = .ok (.iload 4, 2) := by decide +kernel
theorem dX8_mayInMind_21 : decode cX8_mayInMind 21 = .ok (.bipush (-9), 2) := by decide +kernel
theorem dX8_mayInMind_23 : decode cX8_mayInMind 23 = .ok (.invokevirtual 161, 3) := by decide +kernel
theorem dX8_mayInMind_26 : decode cX8_mayInMind 26 = .ok (.ifCond .eq 7, 3) := by decide +kernel
theorem dX8_mayInMind_29 : decode cX8_mayInMind 29 = .ok (.iconst 1, 1) := by decide +kernel
theorem dX8_mayInMind_30 : decode cX8_mayInMind 30 = .ok (.goto 4, 3) := by decide +kernel
theorem dX8_mayInMind_33 : decode cX8_mayInMind 33 = .ok (.iconst 0, 1) := by decide +kernel
theorem dX8_mayInMind_34 : decode cX8_mayInMind 34 = .ok (.ireturn, 1) := by decide +kernel
theorem dX8_findSoon_0 : decode cX8_findSoon 0 = .ok (.iconst 0, 1) := by decide +kernel
theorem dX8_findSoon_1 : decode cX8_findSoon 1 = .ok (.istore 4, 2) := by decide +kernel
theorem dX8_findSoon_3 : decode cX8_findSoon 3 = .ok (.iload 4, 2) := by decide +kernel
theorem dX8_findSoon_5 : decode cX8_findSoon 5 = .ok (.bipush 7, 2) := by decide +kernel
theorem dX8_findSoon_7 : decode cX8_findSoon 7 = .ok (.if_icmp .ge 18, 3) := by decide +kernel
theorem dX8_findSoon_10 : decode cX8_findSoon 10 = .ok (.aload_n 0, 1) := by decide +kernel
theorem dX8_findSoon_11 : decode cX8_findSoon 11 = .ok (.getfield 49, 3) := by decide +kernel
theorem dX8_findSoon_14 : decode cX8_findSoon 14 = .ok (.iload 4, 2) := by decide +kernel
theorem dX8_findSoon_16 : decode cX8_findSoon 16 = .ok (.ldc 138, 2) := by decide +kernel
theorem dX8_findSoon_18 : decode cX8_findSoon 18 = .ok (.iastore, 1) := by decide +kernel
theorem dX8_findSoon_19 : decode cX8_findSoon 19 = .ok (.iinc 4 1, 3) := by decide +kernel
theorem dX8_findSoon_22 : decode cX8_findSoon 22 = .ok (.goto (-19), 3) := by decide +kernel
theorem dX8_findSoon_25 : decode cX8_findSoon 25 = .ok (.aload_n 0, 1) := by decide +kernel
theorem dX8_findSoon_26 : decode cX8_findSoon 26 = .ok (.getfield 49, 3) := by decide +kernel
theorem dX8_findSoon_29 : decode cX8_findSoon 29 = .ok (.aload_n 0, 1) := by decide +kernel
theorem dX8_findSoon_30 : decode cX8_findSoon 30 = .ok (.getfield 31, 3) := by decide +kernel
theorem dX8_findSoon_33 : decode cX8_findSoon 33 = .ok (.iload_n 2, 1) := by decide +kernel
theorem dX8_findSoon_34 : decode cX8_findSoon 34 = .ok (.aaload, 1) := by decide +kernel
theorem dX8_findSoon_35 : decode cX8_findSoon 35 = .ok (.iconst 2, 1) := by decide +kernel
theorem dX8_findSoon_36 : decode cX8_findSoon 36 = .ok (.iaload, 1) := by decide +kernel
theorem dX8_findSoon_37 : decode cX8_findSoon 37 = .ok (.iconst 0, 1) := by decide +kernel
theorem dX8_findSoon_38 : decode cX8_findSoon 38 = .ok (.iastore, 1) := by decide +kernel
theorem dX8_findSoon_39 : decode cX8_findSoon 39 = .ok (.iconst 1, 1) := by decide +kernel
theorem dX8_findSoon_40 : decode cX8_findSoon 40 = .ok (.istore 4, 2) := by decide +kernel
theorem dX8_findSoon_42 : decode cX8_findSoon 42 = .ok (.iload 4, 2) := by decide +kernel
theorem dX8_findSoon_44 : decode cX8_findSoon 44 = .ok (.ifCond .eq 140, 3) := by decide +kernel
theorem dX8_findSoon_47 : decode cX8_findSoon 47 = .ok (.iconst 0, 1) := by decide +kernel
theorem dX8_findSoon_48 : decode cX8_findSoon 48 = .ok (.istore 4, 2) := by decide +kernel
theorem dX8_findSoon_50 : decode cX8_findSoon 50 = .ok (.iconst 0, 1) := by decide +kernel
theorem dX8_findSoon_51 : decode cX8_findSoon 51 = .ok (.istore 5, 2) := by decide +kernel
theorem dX8_findSoon_53 : decode cX8_findSoon 53 = .ok (.iload 5, 2) := by decide +kernel
theorem dX8_findSoon_55 : decode cX8_findSoon 55 = .ok (.aload_n 0, 1) := by decide +kernel
theorem dX8_findSoon_56 : decode cX8_findSoon 56 = .ok (.getfield 65, 3) := by decide +kernel
theorem dX8_findSoon_59 : decode cX8_findSoon 59 = .ok (.if_icmp .ge 122, 3) := by decide +kernel
theorem dX8_findSoon_62 : decode cX8_findSoon 62 = .ok (.iconst 0, 1) := by decide +kernel
theorem dX8_findSoon_63 : decode cX8_findSoon 63 = .ok (.istore 6, 2) := by decide +kernel
theorem dX8_findSoon_65 : decode cX8_findSoon 65 = .ok (.iconst 0, 1) := by decide +kernel
theorem dX8_findSoon_66 : decode cX8_findSoon 66 = .ok (.istore 7, 2) := by decide +kernel
theorem dX8_findSoon_68 : decode cX8_findSoon 68 = .ok (.iload 7, 2) := by decide +kernel
theorem dX8_findSoon_70 : decode cX8_findSoon 70 = .ok (.aload_n 0, 1) := by decide +kernel
theorem dX8_findSoon_71 : decode cX8_findSoon 71 = .ok (.getfield 46, 3) := by decide +kernel
theorem dX8_findSoon_74 : decode cX8_findSoon 74 = .ok (.iload 5, 2) := by decide +kernel
theorem dX8_findSoon_76 : decode cX8_findSoon 76 = .ok (.iaload, 1) := by decide +kernel
theorem dX8_findSoon_77 : decode cX8_findSoon 77 = .ok (.if_icmp .ge 98, 3) := by decide +kernel
theorem dX8_findSoon_80 : decode cX8_findSoon 80 = .ok (.aload_n 0, 1) := by decide +kernel
theorem dX8_findSoon_81 : decode cX8_findSoon 81 = .ok (.getfield 40, 3) := by decide +kernel
theorem dX8_findSoon_84 : decode cX8_findSoon 84 = .ok (.iload 5, 2) := by decide +kernel
theorem dX8_findSoon_86 : decode cX8_findSoon 86 = .ok (.aaload, 1) := by decide +kernel
theorem dX8_findSoon_87 : decode cX8_findSoon 87 = .ok (.iload 7, 2) := by decide +kernel
theorem dX8_findSoon_89 : decode cX8_findSoon 89 = .ok (.iaload, 1) := by decide +kernel
theorem dX8_findSoon_90 : decode cX8_findSoon 90 = .ok (.istore 8, 2) := by decide +kernel
theorem dX8_findSoon_92 : decode cX8_findSoon 92 = .ok (.aload_n 0, 1) := by decide +kernel
theorem dX8_findSoon_93 : decode cX8_findSoon 93 = .ok (.getfield 43, 3) := by decide +kernel
theorem dX8_findSoon_96 : decode cX8_findSoon 96 = .ok (.iload 5, 2) := by decide +kernel
theorem dX8_findSoon_98 : decode cX8_findSoon 98 = .ok (.aaload, 1) := by decide +kernel
theorem dX8_findSoon_99 : decode cX8_findSoon 99 = .ok (.iload 7, 2) := by decide +kernel
theorem dX8_findSoon_101 : decode cX8_findSoon 101 = .ok (.iaload, 1) := by decide +kernel
theorem dX8_findSoon_102 : decode cX8_findSoon 102 = .ok (.istore 9, 2) := by decide +kernel
theorem dX8_findSoon_104 : decode cX8_findSoon 104 = .ok (.iload 6, 2) := by decide +kernel
theorem dX8_findSoon_106 : decode cX8_findSoon 106 = .ok (.ifCond .eq 27, 3) := by decide +kernel
theorem dX8_findSoon_109 : decode cX8_findSoon 109 = .ok (.iload 9, 2) := by decide +kernel
theorem dX8_findSoon_111 : decode cX8_findSoon 111 = .ok (.aload_n 0, 1) := by decide +kernel
theorem dX8_findSoon_112 : decode cX8_findSoon 112 = .ok (.getfield 49, 3) := by decide +kernel
theorem dX8_findSoon_115 : decode cX8_findSoon 115 = .ok (.iload 8, 2) := by decide +kernel
theorem dX8_findSoon_117 : decode cX8_findSoon 117 = .ok (.iaload, 1) := by decide +kernel
theorem dX8_findSoon_118 : decode cX8_findSoon 118 = .ok (.if_icmp .ge 15, 3) := by decide +kernel
theorem dX8_findSoon_121 : decode cX8_findSoon 121 = .ok (.aload_n 0, 1) := by decide +kernel
theorem dX8_findSoon_122 : decode cX8_findSoon 122 = .ok (.getfield 49, 3) := by decide +kernel
theorem dX8_findSoon_125 : decode cX8_findSoon 125 = .ok (.iload 8, 2) := by decide +kernel
theorem dX8_findSoon_127 : decode cX8_findSoon 127 = .ok (.iload 9, 2) := by decide +kernel
theorem dX8_findSoon_129 : decode cX8_findSoon 129 = .ok (.iastore, 1) := by decide +kernel
theorem dX8_findSoon_130 : decode cX8_findSoon 130 = .ok (.iconst 1, 1) := by decide +kernel
theorem dX8_findSoon_131 : decode cX8_findSoon 131 = .ok (.istore 4, 2) := by decide +kernel
theorem dX8_findSoon_133 : decode cX8_findSoon 133 = .ok (.iload 6, 2) := by decide +kernel
theorem dX8_findSoon_135 : decode cX8_findSoon 135 = .ok (.aload_n 0, 1) := by decide +kernel
theorem dX8_findSoon_136 : decode cX8_findSoon 136 = .ok (.getfield 49, 3) := by decide +kernel
theorem dX8_findSoon_139 : decode cX8_findSoon 139 = .ok (.iload 8, 2) := by decide +kernel
theorem dX8_findSoon_141 : decode cX8_findSoon 141 = .ok (.iaload, 1) := by decide +kernel
theorem dX8_findSoon_142 : decode cX8_findSoon 142 = .ok (.iload 9, 2) := by decide +kernel
theorem dX8_findSoon_144 : decode cX8_findSoon 144 = .ok (.if_icmp .gt 21, 3) := by decide +kernel
theorem dX8_findSoon_147 : decode cX8_findSoon 147 = .ok (.aload_n 0, 1) := by decide +kernel
theorem dX8_findSoon_148 : decode cX8_findSoon 148 = .ok (.iload_n 1, 1) := by decide +kernel
theorem dX8_findSoon_149 : decode cX8_findSoon 149 = .ok (.iload 5, 2) := by decide +kernel
theorem dX8_findSoon_151 : decode cX8_findSoon 151 = .ok (.iload_n 2, 1) := by decide +kernel
theorem dX8_findSoon_152 : decode cX8_findSoon 152 = .ok (.iload 9, 2) := by decide +kernel
theorem dX8_findSoon_154 : decode cX8_findSoon 154 = .ok (.iload_n 3, 1) := by decide +kernel
theorem dX8_findSoon_155 : decode cX8_findSoon 155 = .ok (.invokevirtual 178, 3) := by decide +kernel
theorem dX8_findSoon_158 : decode cX8_findSoon 158 = .ok (.ifCond .eq 7, 3) := by decide +kernel
theorem dX8_findSoon_161 : decode cX8_findSoon 161 = .ok (.iconst 1, 1) := by decide +kernel
theorem dX8_findSoon_162 : decode cX8_findSoon 162 = .ok (.goto 4, 3) := by decide +kernel
theorem dX8_findSoon_165 : decode cX8_findSoon 165 = .ok (.iconst 0, 1) := by decide +kernel
theorem dX8_findSoon_166 : decode cX8_findSoon 166 = .ok (.ior, 1) := by decide +kernel
theorem dX8_findSoon_167 : decode cX8_findSoon 167 = .ok (.istore 6, 2) := by decide +kernel
theorem dX8_findSoon_169 : decode cX8_findSoon 169 = .ok (.iinc 7 1, 3) := by decide +kernel
theorem dX8_findSoon_172 : decode cX8_findSoon 172 = .ok (.goto (-104), 3) := by decide +kernel
theorem dX8_findSoon_175 : decode cX8_findSoon 175 = .ok (.iinc 5 1, 3) := by decide +kernel
theorem dX8_findSoon_178 : decode cX8_findSoon 178 = .ok (.goto (-125), 3) := by decide +kernel
theorem dX8_findSoon_181 : decode cX8_findSoon 181 = .ok (.goto (-139), 3) := by decide +kernel
theorem dX8_findSoon_184 : decode cX8_findSoon 184 = .ok (.return_, 1) := by decide +kernel
theorem dX8_soonestBy_0 : decode cX8_soonestBy 0 = .ok (.aload_n 0, 1) := by decide +kernel
theorem dX8_soonestBy_1 : decode cX8_soonestBy 1 = .ok (.iload_n 1, 1) := by decide +kernel
theorem dX8_soonestBy_2 : decode cX8_soonestBy 2 = .ok (.iload_n 2, 1) := by decide +kernel
theorem dX8_soonestBy_3 : decode cX8_soonestBy 3 = .ok (.iload_n 3, 1) := by decide +kernel
theorem dX8_soonestBy_4 : decode cX8_soonestBy 4 = .ok (.invokevirtual 181, 3) := by decide +kernel
theorem dX8_soonestBy_7 : decode cX8_soonestBy 7 = .ok (.aload_n 0, 1) := by decide +kernel
theorem dX8_soonestBy_8 : decode cX8_soonestBy 8 = .ok (.getfield 49, 3) := by decide +kernel
theorem dX8_soonestBy_11 : decode cX8_soonestBy 11 = .ok (.aload_n 0, 1) := by decide +kernel
theorem dX8_soonestBy_12 : decode cX8_soonestBy 12 = .ok (.getfield 31, 3) := by decide +kernel
theorem dX8_soonestBy_15 : decode cX8_soonestBy 15 = .ok (.iload_n 2, 1) := by decide +kernel
theorem dX8_soonestBy_16 : decode cX8_soonestBy 16 = .ok (.aaload, 1) := by decide +kernel
theorem dX8_soonestBy_17 : decode cX8_soonestBy 17 = .ok (.iconst 3, 1) := by decide +kernel
theorem dX8_soonestBy_18 : decode cX8_soonestBy 18 = .ok (.iaload, 1) := by decide +kernel
theorem dX8_soonestBy_19 : decode cX8_soonestBy 19 = .ok (.iaload, 1) := by decide +kernel
theorem dX8_soonestBy_20 : decode cX8_soonestBy 20 = .ok (.istore 4, 2) := by decide +kernel
theorem dX8_soonestBy_22 : decode cX8_soonestBy 22 = .ok (.iload 4, 2) := by decide +kernel
theorem dX8_soonestBy_24 : decode cX8_soonestBy 24 = .ok (.ldc 138, 2) := by decide +kernel
theorem dX8_soonestBy_26 : decode cX8_soonestBy 26 = .ok (.if_icmp .ge 8, 3) := by decide +kernel
theorem dX8_soonestBy_29 : decode cX8_soonestBy 29 = .ok (.iload 4, 2) := by decide +kernel
theorem dX8_soonestBy_31 : decode cX8_soonestBy 31 = .ok (.goto 5, 3) := by decide +kernel
theorem dX8_soonestBy_34 : decode cX8_soonestBy 34 = .ok (.bipush (-9), 2) := by decide +kernel
theorem dX8_soonestBy_36 : decode cX8_soonestBy 36 = .ok (.ireturn, 1) := by decide +kernel
theorem dX8_soonest_0 : decode cX8_soonest 0 = .ok (.aload_n 0, 1) := by decide +kernel
theorem dX8_soonest_1 : decode cX8_soonest 1 = .ok (.iload_n 1, 1) := by decide +kernel
theorem dX8_soonest_2 : decode cX8_soonest 2 = .ok (.invokevirtual 145, 3) := by decide +kernel
theorem dX8_soonest_5 : decode cX8_soonest 5 = .ok (.ifCond .ne 9, 3) := by decide +kernel
theorem dX8_soonest_8 : decode cX8_soonest 8 = .ok (.aload_n 0, 1) := by decide +kernel
theorem dX8_soonest_9 : decode cX8_soonest 9 = .ok (.iconst (-1), 1) := by decide +kernel
theorem dX8_soonest_10 : decode cX8_soonest 10 = .ok (.invokevirtual 71, 3) := by decide +kernel
theorem dX8_soonest_13 : decode cX8_soonest 13 = .ok (.ireturn, 1) := by decide +kernel
theorem dX8_soonest_14 : decode cX8_soonest 14 = .ok (.aload_n 0, 1) := by decide +kernel
theorem dX8_soonest_15 : decode cX8_soonest 15 = .ok (.invokevirtual 185, 3) := by decide +kernel
theorem dX8_soonest_18 : decode cX8_soonest 18 = .ok (.aload_n 0, 1) := by decide +kernel
theorem dX8_soonest_19 : decode cX8_soonest 19 = .ok (.aload_n 0, 1) := by decide +kernel
theorem dX8_soonest_20 : decode cX8_soonest 20 = .ok (.getfield 148, 3) := by decide +kernel
theorem dX8_soonest_23 : decode cX8_soonest 23 = .ok (.iload_n 1, 1) := by decide +kernel
theorem dX8_soonest_24 : decode cX8_soonest 24 = .ok (.bipush (-9), 2) := by decide +kernel
theorem dX8_soonest_26 : decode cX8_soonest 26 = .ok (.invokevirtual 188, 3) := by decide +kernel
theorem dX8_soonest_29 : decode cX8_soonest 29 = .ok (.ireturn, 1) := by decide +kernel
theorem dX8_bringsFrom_0 : decode cX8_bringsFrom 0 = .ok (.bipush (-9), 2) := by decide +kernel
theorem dX8_bringsFrom_2 : decode cX8_bringsFrom 2 = .ok (.istore 5, 2) := by decide +kernel
theorem dX8_bringsFrom_4 : decode cX8_bringsFrom 4 = .ok (.iconst 0, 1) := by decide +kernel
theorem dX8_bringsFrom_5 : decode cX8_bringsFrom 5 = .ok (.istore 6, 2) := by decide +kernel
theorem dX8_bringsFrom_7 : decode cX8_bringsFrom 7 = .ok (.iload 6, 2) := by decide +kernel
theorem dX8_bringsFrom_9 : decode cX8_bringsFrom 9 = .ok (.aload_n 0, 1) := by decide +kernel
theorem dX8_bringsFrom_10 : decode cX8_bringsFrom 10 = .ok (.getfield 46, 3) := by decide +kernel
theorem dX8_bringsFrom_13 : decode cX8_bringsFrom 13 = .ok (.iload_n 1, 1) := by decide +kernel
theorem dX8_bringsFrom_14 : decode cX8_bringsFrom 14 = .ok (.iaload, 1) := by decide +kernel
theorem dX8_bringsFrom_15 : decode cX8_bringsFrom 15 = .ok (.if_icmp .ge 100, 3) := by decide +kernel
theorem dX8_bringsFrom_18 : decode cX8_bringsFrom 18 = .ok (.aload_n 0, 1) := by decide +kernel
theorem dX8_bringsFrom_19 : decode cX8_bringsFrom 19 = .ok (.getfield 40, 3) := by decide +kernel
theorem dX8_bringsFrom_22 : decode cX8_bringsFrom 22 = .ok (.iload_n 1, 1) := by decide +kernel
theorem dX8_bringsFrom_23 : decode cX8_bringsFrom 23 = .ok (.aaload, 1) := by decide +kernel
theorem dX8_bringsFrom_24 : decode cX8_bringsFrom 24 = .ok (.iload 6, 2) := by decide +kernel
theorem dX8_bringsFrom_26 : decode cX8_bringsFrom 26 = .ok (.iaload, 1) := by decide +kernel
theorem dX8_bringsFrom_27 : decode cX8_bringsFrom 27 = .ok (.istore 7, 2) := by decide +kernel
theorem dX8_bringsFrom_29 : decode cX8_bringsFrom 29 = .ok (.iload 7, 2) := by decide +kernel
theorem dX8_bringsFrom_31 : decode cX8_bringsFrom 31 = .ok (.iload_n 3, 1) := by decide +kernel
theorem dX8_bringsFrom_32 : decode cX8_bringsFrom 32 = .ok (.if_icmp .ne 25, 3) := by decide +kernel
theorem dX8_bringsFrom_35 : decode cX8_bringsFrom 35 = .ok (.aload_n 0, 1) := by decide +kernel
theorem dX8_bringsFrom_36 : decode cX8_bringsFrom 36 = .ok (.getfield 43, 3) := by decide +kernel
theorem dX8_bringsFrom_39 : decode cX8_bringsFrom 39 = .ok (.iload_n 1, 1) := by decide +kernel
theorem dX8_bringsFrom_40 : decode cX8_bringsFrom 40 = .ok (.aaload, 1) := by decide +kernel
theorem dX8_bringsFrom_41 : decode cX8_bringsFrom 41 = .ok (.iload 6, 2) := by decide +kernel
theorem dX8_bringsFrom_43 : decode cX8_bringsFrom 43 = .ok (.iaload, 1) := by decide +kernel
theorem dX8_bringsFrom_44 : decode cX8_bringsFrom 44 = .ok (.iload 4, 2) := by decide +kernel
theorem dX8_bringsFrom_46 : decode cX8_bringsFrom 46 = .ok (.if_icmp .ne 8, 3) := by decide +kernel
theorem dX8_bringsFrom_49 : decode cX8_bringsFrom 49 = .ok (.iload 5, 2) := by decide +kernel
theorem dX8_bringsFrom_51 : decode cX8_bringsFrom 51 = .ok (.goto 5, 3) := by decide +kernel
theorem dX8_bringsFrom_54 : decode cX8_bringsFrom 54 = .ok (.bipush (-9), 2) := by decide +kernel
theorem dX8_bringsFrom_56 : decode cX8_bringsFrom 56 = .ok (.ireturn, 1) := by decide +kernel
theorem dX8_bringsFrom_57 : decode cX8_bringsFrom 57 = .ok (.aload_n 0, 1) := by decide +kernel
theorem dX8_bringsFrom_58 : decode cX8_bringsFrom 58 = .ok (.getfield 49, 3) := by decide +kernel
theorem dX8_bringsFrom_61 : decode cX8_bringsFrom 61 = .ok (.iload 7, 2) := by decide +kernel
theorem dX8_bringsFrom_63 : decode cX8_bringsFrom 63 = .ok (.iaload, 1) := by decide +kernel
theorem dX8_bringsFrom_64 : decode cX8_bringsFrom 64 = .ok (.aload_n 0, 1) := by decide +kernel
theorem dX8_bringsFrom_65 : decode cX8_bringsFrom 65 = .ok (.getfield 43, 3) := by decide +kernel
theorem dX8_bringsFrom_68 : decode cX8_bringsFrom 68 = .ok (.iload_n 1, 1) := by decide +kernel
theorem dX8_bringsFrom_69 : decode cX8_bringsFrom 69 = .ok (.aaload, 1) := by decide +kernel
theorem dX8_bringsFrom_70 : decode cX8_bringsFrom 70 = .ok (.iload 6, 2) := by decide +kernel
theorem dX8_bringsFrom_72 : decode cX8_bringsFrom 72 = .ok (.iaload, 1) := by decide +kernel
theorem dX8_bringsFrom_73 : decode cX8_bringsFrom 73 = .ok (.if_icmp .gt 32, 3) := by decide +kernel
theorem dX8_bringsFrom_76 : decode cX8_bringsFrom 76 = .ok (.aload_n 0, 1) := by decide +kernel
theorem dX8_bringsFrom_77 : decode cX8_bringsFrom 77 = .ok (.aload_n 0, 1) := by decide +kernel
theorem dX8_bringsFrom_78 : decode cX8_bringsFrom 78 = .ok (.getfield 148, 3) := by decide +kernel
theorem dX8_bringsFrom_81 : decode cX8_bringsFrom 81 = .ok (.iload_n 1, 1) := by decide +kernel
theorem dX8_bringsFrom_82 : decode cX8_bringsFrom 82 = .ok (.iload_n 2, 1) := by decide +kernel
theorem dX8_bringsFrom_83 : decode cX8_bringsFrom 83 = .ok (.aload_n 0, 1) := by decide +kernel
theorem dX8_bringsFrom_84 : decode cX8_bringsFrom 84 = .ok (.getfield 43, 3) := by decide +kernel
theorem dX8_bringsFrom_87 : decode cX8_bringsFrom 87 = .ok (.iload_n 1, 1) := by decide +kernel
theorem dX8_bringsFrom_88 : decode cX8_bringsFrom 88 = .ok (.aaload, 1) := by decide +kernel
theorem dX8_bringsFrom_89 : decode cX8_bringsFrom 89 = .ok (.iload 6, 2) := by decide +kernel
theorem dX8_bringsFrom_91 : decode cX8_bringsFrom 91 = .ok (.iaload, 1) := by decide +kernel
theorem dX8_bringsFrom_92 : decode cX8_bringsFrom 92 = .ok (.bipush (-9), 2) := by decide +kernel
theorem dX8_bringsFrom_94 : decode cX8_bringsFrom 94 = .ok (.invokevirtual 178, 3) := by decide +kernel
theorem dX8_bringsFrom_97 : decode cX8_bringsFrom 97 = .ok (.ifCond .eq 8, 3) := by decide +kernel
theorem dX8_bringsFrom_100 : decode cX8_bringsFrom 100 = .ok (.iload 6, 2) := by decide +kernel
theorem dX8_bringsFrom_102 : decode cX8_bringsFrom 102 = .ok (.goto 5, 3) := by decide +kernel
theorem dX8_bringsFrom_105 : decode cX8_bringsFrom 105 = .ok (.iload 5, 2) := by decide +kernel
theorem dX8_bringsFrom_107 : decode cX8_bringsFrom 107 = .ok (.istore 5, 2) := by decide +kernel
theorem dX8_bringsFrom_109 : decode cX8_bringsFrom 109 = .ok (.iinc 6 1, 3) := by decide +kernel
theorem dX8_bringsFrom_112 : decode cX8_bringsFrom 112 = .ok (.goto (-105), 3) := by decide +kernel
theorem dX8_bringsFrom_115 : decode cX8_bringsFrom 115 = .ok (.bipush (-9), 2) := by decide +kernel
theorem dX8_bringsFrom_117 : decode cX8_bringsFrom 117 = .ok (.ireturn, 1) := by decide +kernel
theorem dX8_findOver_0 : decode cX8_findOver 0 = .ok (.aload_n 0, 1) := by decide +kernel
theorem dX8_findOver_1 : decode cX8_findOver 1 = .ok (.getfield 31, 3) := by decide +kernel
theorem dX8_findOver_4 : decode cX8_findOver 4 = .ok (.iload_n 1, 1) := by decide +kernel
theorem dX8_findOver_5 : decode cX8_findOver 5 = .ok (.aaload, 1) := by decide +kernel
theorem dX8_findOver_6 : decode cX8_findOver 6 = .ok (.iconst 3, 1) := by decide +kernel
theorem dX8_findOver_7 : decode cX8_findOver 7 = .ok (.iaload, 1) := by decide +kernel
theorem dX8_findOver_8 : decode cX8_findOver 8 = .ok (.istore_n 2, 1) := by decide +kernel
theorem dX8_findOver_9 : decode cX8_findOver 9 = .ok (.iconst 0, 1) := by decide +kernel
theorem dX8_findOver_10 : decode cX8_findOver 10 = .ok (.istore_n 3, 1) := by decide +kernel
theorem dX8_findOver_11 : decode cX8_findOver 11 = .ok (.iload_n 2, 1) := by decide +kernel
theorem dX8_findOver_12 : decode cX8_findOver 12 = .ok (.aload_n 0, 1) := by decide +kernel
theorem dX8_findOver_13 : decode cX8_findOver 13 = .ok (.getfield 31, 3) := by decide +kernel
theorem dX8_findOver_16 : decode cX8_findOver 16 = .ok (.iload_n 1, 1) := by decide +kernel
theorem dX8_findOver_17 : decode cX8_findOver 17 = .ok (.aaload, 1) := by decide +kernel
theorem dX8_findOver_18 : decode cX8_findOver 18 = .ok (.iconst 2, 1) := by decide +kernel
theorem dX8_findOver_19 : decode cX8_findOver 19 = .ok (.iaload, 1) := by decide +kernel
theorem dX8_findOver_20 : decode cX8_findOver 20 = .ok (.if_icmp .eq 68, 3) := by decide +kernel
theorem dX8_findOver_23 : decode cX8_findOver 23 = .ok (.iconst 0, 1) := by decide +kernel
theorem dX8_findOver_24 : decode cX8_findOver 24 = .ok (.istore 4, 2) := by decide +kernel
theorem dX8_findOver_26 : decode cX8_findOver 26 = .ok (.aload_n 0, 1) := by decide +kernel
theorem dX8_findOver_27 : decode cX8_findOver 27 = .ok (.iload 4, 2) := by decide +kernel
theorem dX8_findOver_29 : decode cX8_findOver 29 = .ok (.iload_n 1, 1) := by decide +kernel
theorem dX8_findOver_30 : decode cX8_findOver 30 = .ok (.iload_n 2, 1) := by decide +kernel
theorem dX8_findOver_31 : decode cX8_findOver 31 = .ok (.aload_n 0, 1) := by decide +kernel
theorem dX8_findOver_32 : decode cX8_findOver 32 = .ok (.getfield 49, 3) := by decide +kernel
theorem dX8_findOver_35 : decode cX8_findOver 35 = .ok (.iload_n 2, 1) := by decide +kernel
theorem dX8_findOver_36 : decode cX8_findOver 36 = .ok (.iaload, 1) := by decide +kernel
theorem dX8_findOver_37 : decode cX8_findOver 37 = .ok (.invokevirtual 192, 3) := by decide +kernel
theorem dX8_findOver_40 : decode cX8_findOver 40 = .ok (.bipush (-9), 2) := by decide +kernel
theorem dX8_findOver_42 : decode cX8_findOver 42 = .ok (.if_icmp .ne 9, 3) := by decide +kernel
theorem dX8_findOver_45 : decode cX8_findOver 45 = .ok (.iinc 4 1, 3) := by decide +kernel
theorem dX8_findOver_48 : decode cX8_findOver 48 = .ok (.goto (-22), 3) := by decide +kernel
theorem dX8_findOver_51 : decode cX8_findOver 51 = .ok (.aload_n 0, 1) := by decide +kernel
theorem dX8_findOver_52 : decode cX8_findOver 52 = .ok (.getfield 52, 3) := by decide +kernel
theorem dX8_findOver_55 : decode cX8_findOver 55 = .ok (.iload_n 3, 1) := by decide +kernel
theorem dX8_findOver_56 : decode cX8_findOver 56 = .ok (.iinc 3 1, 3) := by decide +kernel
theorem dX8_findOver_59 : decode cX8_findOver 59 = .ok (.iload 4, 2) := by decide +kernel
theorem dX8_findOver_61 : decode cX8_findOver 61 = .ok (.iastore, 1) := by decide +kernel
theorem dX8_findOver_62 : decode cX8_findOver 62 = .ok (.aload_n 0, 1) := by decide +kernel
theorem dX8_findOver_63 : decode cX8_findOver 63 = .ok (.getfield 40, 3) := by decide +kernel
theorem dX8_findOver_66 : decode cX8_findOver 66 = .ok (.iload 4, 2) := by decide +kernel
theorem dX8_findOver_68 : decode cX8_findOver 68 = .ok (.aaload, 1) := by decide +kernel
theorem dX8_findOver_69 : decode cX8_findOver 69 = .ok (.aload_n 0, 1) := by decide +kernel
theorem dX8_findOver_70 : decode cX8_findOver 70 = .ok (.iload 4, 2) := by decide +kernel
theorem dX8_findOver_72 : decode cX8_findOver 72 = .ok (.iload_n 1, 1) := by decide +kernel
theorem dX8_findOver_73 : decode cX8_findOver 73 = .ok (.iload_n 2, 1) := by decide +kernel
theorem dX8_findOver_74 : decode cX8_findOver 74 = .ok (.aload_n 0, 1) := by decide +kernel
theorem dX8_findOver_75 : decode cX8_findOver 75 = .ok (.getfield 49, 3) := by decide +kernel
theorem dX8_findOver_78 : decode cX8_findOver 78 = .ok (.iload_n 2, 1) := by decide +kernel
theorem dX8_findOver_79 : decode cX8_findOver 79 = .ok (.iaload, 1) := by decide +kernel
theorem dX8_findOver_80 : decode cX8_findOver 80 = .ok (.invokevirtual 192, 3) := by decide +kernel
theorem dX8_findOver_83 : decode cX8_findOver 83 = .ok (.iaload, 1) := by decide +kernel
theorem dX8_findOver_84 : decode cX8_findOver 84 = .ok (.istore_n 2, 1) := by decide +kernel
theorem dX8_findOver_85 : decode cX8_findOver 85 = .ok (.goto (-74), 3) := by decide +kernel
theorem dX8_findOver_88 : decode cX8_findOver 88 = .ok (.iload_n 3, 1) := by decide +kernel
theorem dX8_findOver_89 : decode cX8_findOver 89 = .ok (.ireturn, 1) := by decide +kernel
theorem dX8_over_0 : decode cX8_over 0 = .ok (.aload_n 0, 1) := by decide +kernel
theorem dX8_over_1 : decode cX8_over 1 = .ok (.iload_n 1, 1) := by decide +kernel
theorem dX8_over_2 : decode cX8_over 2 = .ok (.invokevirtual 145, 3) := by decide +kernel
theorem dX8_over_5 : decode cX8_over 5 = .ok (.ifCond .ne 9, 3) := by decide +kernel
theorem dX8_over_8 : decode cX8_over 8 = .ok (.aload_n 0, 1) := by decide +kernel
theorem dX8_over_9 : decode cX8_over 9 = .ok (.iconst (-1), 1) := by decide +kernel
theorem dX8_over_10 : decode cX8_over 10 = .ok (.invokevirtual 71, 3) := by decide +kernel
theorem dX8_over_13 : decode cX8_over 13 = .ok (.ireturn, 1) := by decide +kernel
theorem dX8_over_14 : decode cX8_over 14 = .ok (.iload_n 2, 1) := by decide +kernel
theorem dX8_over_15 : decode cX8_over 15 = .ok (.iconst (-1), 1) := by decide +kernel
theorem dX8_over_16 : decode cX8_over 16 = .ok (.if_icmp .ge 10, 3) := by decide +kernel
theorem dX8_over_19 : decode cX8_over 19 = .ok (.aload_n 0, 1) := by decide +kernel
theorem dX8_over_20 : decode cX8_over 20 = .ok (.bipush (-4), 2) := by decide +kernel
theorem dX8_over_22 : decode cX8_over 22 = .ok (.invokevirtual 71, 3) := by decide +kernel
theorem dX8_over_25 : decode cX8_over 25 = .ok (.ireturn, 1) := by decide +kernel
theorem dX8_over_26 : decode cX8_over 26 = .ok (.aload_n 0, 1) := by decide +kernel
theorem dX8_over_27 : decode cX8_over 27 = .ok (.invokevirtual 185, 3) := by decide +kernel
theorem dX8_over_30 : decode cX8_over 30 = .ok (.aload_n 0, 1) := by decide +kernel
theorem dX8_over_31 : decode cX8_over 31 = .ok (.aload_n 0, 1) := by decide +kernel
theorem dX8_over_32 : decode cX8_over 32 = .ok (.getfield 148, 3) := by decide +kernel
theorem dX8_over_35 : decode cX8_over 35 = .ok (.iload_n 1, 1) := by decide +kernel
theorem dX8_over_36 : decode cX8_over 36 = .ok (.bipush (-9), 2) := by decide +kernel
theorem dX8_over_38 : decode cX8_over 38 = .ok (.invokevirtual 188, 3) := by decide +kernel
theorem dX8_over_41 : decode cX8_over 41 = .ok (.bipush (-9), 2) := by decide +kernel
theorem dX8_over_43 : decode cX8_over 43 = .ok (.if_icmp .ne 6, 3) := by decide +kernel
theorem dX8_over_46 : decode cX8_over 46 = .ok (.bipush (-9), 2) := by decide +kernel
theorem dX8_over_48 : decode cX8_over 48 = .ok (.ireturn, 1) := by decide +kernel
theorem dX8_over_49 : decode cX8_over 49 = .ok (.aload_n 0, 1) := by decide +kernel
theorem dX8_over_50 : decode cX8_over 50 = .ok (.iload_n 1, 1) := by decide +kernel
theorem dX8_over_51 : decode cX8_over 51 = .ok (.invokevirtual 196, 3) := by decide +kernel
theorem dX8_over_54 : decode cX8_over 54 = .ok (.istore_n 3, 1) := by decide +kernel
theorem dX8_over_55 : decode cX8_over 55 = .ok (.iload_n 2, 1) := by decide +kernel
theorem dX8_over_56 : decode cX8_over 56 = .ok (.iconst (-1), 1) := by decide +kernel
theorem dX8_over_57 : decode cX8_over 57 = .ok (.if_icmp .ne 7, 3) := by decide +kernel
theorem dX8_over_60 : decode cX8_over 60 = .ok (.iload_n 3, 1) := by decide +kernel
theorem dX8_over_61 : decode cX8_over 61 = .ok (.goto 23, 3) := by decide +kernel
theorem dX8_over_64 : decode cX8_over 64 = .ok (.iload_n 2, 1) := by decide +kernel
theorem dX8_over_65 : decode cX8_over 65 = .ok (.iload_n 3, 1) := by decide +kernel
theorem dX8_over_66 : decode cX8_over 66 = .ok (.if_icmp .ge 16, 3) := by decide +kernel
theorem dX8_over_69 : decode cX8_over 69 = .ok (.aload_n 0, 1) := by decide +kernel
theorem dX8_over_70 : decode cX8_over 70 = .ok (.getfield 52, 3) := by decide +kernel
theorem dX8_over_73 : decode cX8_over 73 = .ok (.iload_n 3, 1) := by decide +kernel
theorem dX8_over_74 : decode cX8_over 74 = .ok (.iconst 1, 1) := by decide +kernel
theorem dX8_over_75 : decode cX8_over 75 = .ok (.isub, 1) := by decide +kernel
theorem dX8_over_76 : decode cX8_over 76 = .ok (.iload_n 2, 1) := by decide +kernel
theorem dX8_over_77 : decode cX8_over 77 = .ok (.isub, 1) := by decide +kernel
theorem dX8_over_78 : decode cX8_over 78 = .ok (.iaload, 1) := by decide +kernel
theorem dX8_over_79 : decode cX8_over 79 = .ok (.goto 5, 3) := by decide +kernel
theorem dX8_over_82 : decode cX8_over 82 = .ok (.bipush (-9), 2) := by decide +kernel
theorem dX8_over_84 : decode cX8_over 84 = .ok (.ireturn, 1) := by decide +kernel
theorem dX8_bars_0 : decode cX8_bars 0 = .ok (.aload_n 0, 1) := by decide +kernel
theorem dX8_bars_1 : decode cX8_bars 1 = .ok (.iload_n 1, 1) := by decide +kernel
theorem dX8_bars_2 : decode cX8_bars 2 = .ok (.invokevirtual 145, 3) := by decide +kernel
theorem dX8_bars_5 : decode cX8_bars 5 = .ok (.ifCond .ne 9, 3) := by decide +kernel
theorem dX8_bars_8 : decode cX8_bars 8 = .ok (.aload_n 0, 1) := by decide +kernel
theorem dX8_bars_9 : decode cX8_bars 9 = .ok (.iconst (-1), 1) := by decide +kernel
theorem dX8_bars_10 : decode cX8_bars 10 = .ok (.invokevirtual 71, 3) := by decide +kernel
theorem dX8_bars_13 : decode cX8_bars 13 = .ok (.ireturn, 1) := by decide +kernel
theorem dX8_bars_14 : decode cX8_bars 14 = .ok (.aload_n 0, 1) := by decide +kernel
theorem dX8_bars_15 : decode cX8_bars 15 = .ok (.invokevirtual 185, 3) := by decide +kernel
theorem dX8_bars_18 : decode cX8_bars 18 = .ok (.iconst 0, 1) := by decide +kernel
theorem dX8_bars_19 : decode cX8_bars 19 = .ok (.istore_n 2, 1) := by decide +kernel
theorem dX8_bars_20 : decode cX8_bars 20 = .ok (.aload_n 0, 1) := by decide +kernel
theorem dX8_bars_21 : decode cX8_bars 21 = .ok (.aload_n 0, 1) := by decide +kernel
theorem dX8_bars_22 : decode cX8_bars 22 = .ok (.getfield 148, 3) := by decide +kernel
theorem dX8_bars_25 : decode cX8_bars 25 = .ok (.iload_n 1, 1) := by decide +kernel
theorem dX8_bars_26 : decode cX8_bars 26 = .ok (.bipush (-9), 2) := by decide +kernel
theorem dX8_bars_28 : decode cX8_bars 28 = .ok (.invokevirtual 188, 3) := by decide +kernel
theorem dX8_bars_31 : decode cX8_bars 31 = .ok (.bipush (-9), 2) := by decide +kernel
theorem dX8_bars_33 : decode cX8_bars 33 = .ok (.if_icmp .ne 53, 3) := by decide +kernel
theorem dX8_bars_36 : decode cX8_bars 36 = .ok (.iconst 0, 1) := by decide +kernel
theorem dX8_bars_37 : decode cX8_bars 37 = .ok (.istore_n 3, 1) := by decide +kernel
theorem dX8_bars_38 : decode cX8_bars 38 = .ok (.iload_n 3, 1) := by decide +kernel
theorem dX8_bars_39 : decode cX8_bars 39 = .ok (.aload_n 0, 1) := by decide +kernel
theorem dX8_bars_40 : decode cX8_bars 40 = .ok (.getfield 65, 3) := by decide +kernel
theorem dX8_bars_43 : decode cX8_bars 43 = .ok (.if_icmp .ge 43, 3) := by decide +kernel
theorem dX8_bars_46 : decode cX8_bars 46 = .ok (.iload_n 2, 1) := by decide +kernel
theorem dX8_bars_47 : decode cX8_bars 47 = .ok (.aload_n 0, 1) := by decide +kernel
theorem dX8_bars_48 : decode cX8_bars 48 = .ok (.iload_n 3, 1) := by decide +kernel
theorem dX8_bars_49 : decode cX8_bars 49 = .ok (.iload_n 1, 1) := by decide +kernel
theorem dX8_bars_50 : decode cX8_bars 50 = .ok (.invokevirtual 158, 3) := by decide +kernel
theorem dX8_bars_53 : decode cX8_bars 53 = .ok (.ifCond .eq 24, 3) := by decide +kernel
theorem dX8_bars_56 : decode cX8_bars 56 = .ok (.aload_n 0, 1) := by decide +kernel
theorem dX8_bars_57 : decode cX8_bars 57 = .ok (.aload_n 0, 1) := by decide +kernel
theorem dX8_bars_58 : decode cX8_bars 58 = .ok (.getfield 148, 3) := by decide +kernel
theorem dX8_bars_61 : decode cX8_bars 61 = .ok (.iload_n 1, 1) := by decide +kernel
theorem dX8_bars_62 : decode cX8_bars 62 = .ok (.iload_n 3, 1) := by decide +kernel
theorem dX8_bars_63 : decode cX8_bars 63 = .ok (.invokevirtual 188, 3) := by decide +kernel
theorem dX8_bars_66 : decode cX8_bars 66 = .ok (.bipush (-9), 2) := by decide +kernel
theorem dX8_bars_68 : decode cX8_bars 68 = .ok (.if_icmp .eq 9, 3) := by decide +kernel
theorem dX8_bars_71 : decode cX8_bars 71 = .ok (.iconst 1, 1) := by decide +kernel
theorem dX8_bars_72 : decode cX8_bars 72 = .ok (.iload_n 3, 1) := by decide +kernel
theorem dX8_bars_73 : decode cX8_bars 73 = .ok (.ishl, 1) := by decide +kernel
theorem dX8_bars_74 : decode cX8_bars 74 = .ok (.goto 4, 3) := by decide +kernel
theorem dX8_bars_77 : decode cX8_bars 77 = .ok (.iconst 0, 1) := by decide +kernel
theorem dX8_bars_78 : decode cX8_bars 78 = .ok (.ior, 1) := by decide +kernel
theorem dX8_bars_79 : decode cX8_bars 79 = .ok (.istore_n 2, 1) := by decide +kernel
theorem dX8_bars_80 : decode cX8_bars 80 = .ok (.iinc 3 1, 3) := by decide +kernel
theorem dX8_bars_83 : decode cX8_bars 83 = .ok (.goto (-45), 3) := by decide +kernel
theorem dX8_bars_86 : decode cX8_bars 86 = .ok (.iload_n 2, 1) := by decide +kernel
theorem dX8_bars_87 : decode cX8_bars 87 = .ok (.ireturn, 1) := by decide +kernel
theorem dX8_never_0 : decode cX8_never 0 = .ok (.aload_n 0, 1) := by decide +kernel
theorem dX8_never_1 : decode cX8_never 1 = .ok (.invokevirtual 185, 3) := by decide +kernel
theorem dX8_never_4 : decode cX8_never 4 = .ok (.iconst 0, 1) := by decide +kernel
theorem dX8_never_5 : decode cX8_never 5 = .ok (.istore_n 1, 1) := by decide +kernel
theorem dX8_never_6 : decode cX8_never 6 = .ok (.iconst 0, 1) := by decide +kernel
theorem dX8_never_7 : decode cX8_never 7 = .ok (.istore_n 2, 1) := by decide +kernel
theorem dX8_never_8 : decode cX8_never 8 = .ok (.iload_n 2, 1) := by decide +kernel
theorem dX8_never_9 : decode cX8_never 9 = .ok (.aload_n 0, 1) := by decide +kernel
theorem dX8_never_10 : decode cX8_never 10 = .ok (.getfield 68, 3) := by decide +kernel
theorem dX8_never_13 : decode cX8_never 13 = .ok (.if_icmp .ge 35, 3) := by decide +kernel
theorem dX8_never_16 : decode cX8_never 16 = .ok (.iload_n 1, 1) := by decide +kernel
theorem dX8_never_17 : decode cX8_never 17 = .ok (.aload_n 0, 1) := by decide +kernel
theorem dX8_never_18 : decode cX8_never 18 = .ok (.aload_n 0, 1) := by decide +kernel
theorem dX8_never_19 : decode cX8_never 19 = .ok (.getfield 148, 3) := by decide +kernel
theorem dX8_never_22 : decode cX8_never 22 = .ok (.iload_n 2, 1) := by decide +kernel
theorem dX8_never_23 : decode cX8_never 23 = .ok (.bipush (-9), 2) := by decide +kernel
theorem dX8_never_25 : decode cX8_never 25 = .ok (.invokevirtual 188, 3) := by decide +kernel
theorem dX8_never_28 : decode cX8_never 28 = .ok (.bipush (-9), 2) := by decide +kernel
theorem dX8_never_30 : decode cX8_never 30 = .ok (.if_icmp .ne 9, 3) := by decide +kernel
theorem dX8_never_33 : decode cX8_never 33 = .ok (.iconst 1, 1) := by decide +kernel
theorem dX8_never_34 : decode cX8_never 34 = .ok (.iload_n 2, 1) := by decide +kernel
theorem dX8_never_35 : decode cX8_never 35 = .ok (.ishl, 1) := by decide +kernel
theorem dX8_never_36 : decode cX8_never 36 = .ok (.goto 4, 3) := by decide +kernel
theorem dX8_never_39 : decode cX8_never 39 = .ok (.iconst 0, 1) := by decide +kernel
theorem dX8_never_40 : decode cX8_never 40 = .ok (.ior, 1) := by decide +kernel
theorem dX8_never_41 : decode cX8_never 41 = .ok (.istore_n 1, 1) := by decide +kernel
theorem dX8_never_42 : decode cX8_never 42 = .ok (.iinc 2 1, 3) := by decide +kernel
theorem dX8_never_45 : decode cX8_never 45 = .ok (.goto (-37), 3) := by decide +kernel
theorem dX8_never_48 : decode cX8_never 48 = .ok (.iload_n 1, 1) := by decide +kernel
theorem dX8_never_49 : decode cX8_never 49 = .ok (.ireturn, 1) := by decide +kernel
theorem dX8_isComeBy_0 : decode cX8_isComeBy 0 = .ok (.iconst 0, 1) := by decide +kernel
theorem dX8_isComeBy_1 : decode cX8_isComeBy 1 = .ok (.istore_n 3, 1) := by decide +kernel
theorem dX8_isComeBy_2 : decode cX8_isComeBy 2 = .ok (.iload_n 3, 1) := by decide +kernel
theorem dX8_isComeBy_3 : decode cX8_isComeBy 3 = .ok (.aload_n 0, 1) := by decide +kernel
theorem dX8_isComeBy_4 : decode cX8_isComeBy 4 = .ok (.getfield 65, 3) := by decide +kernel
theorem dX8_isComeBy_7 : decode cX8_isComeBy 7 = .ok (.if_icmp .ge 68, 3) := by decide +kernel
theorem dX8_isComeBy_10 : decode cX8_isComeBy 10 = .ok (.iconst 0, 1) := by decide +kernel
theorem dX8_isComeBy_11 : decode cX8_isComeBy 11 = .ok (.istore 4, 2) := by decide +kernel
theorem dX8_isComeBy_13 : decode cX8_isComeBy 13 = .ok (.iload 4, 2) := by decide +kernel
theorem dX8_isComeBy_15 : decode cX8_isComeBy 15 = .ok (.aload_n 0, 1) := by decide +kernel
theorem dX8_isComeBy_16 : decode cX8_isComeBy 16 = .ok (.getfield 46, 3) := by decide +kernel
theorem dX8_isComeBy_19 : decode cX8_isComeBy 19 = .ok (.iload_n 3, 1) := by decide +kernel
theorem dX8_isComeBy_20 : decode cX8_isComeBy 20 = .ok (.iaload, 1) := by decide +kernel
theorem dX8_isComeBy_21 : decode cX8_isComeBy 21 = .ok (.if_icmp .ge 48, 3) := by decide +kernel
theorem dX8_isComeBy_24 : decode cX8_isComeBy 24 = .ok (.aload_n 0, 1) := by decide +kernel
theorem dX8_isComeBy_25 : decode cX8_isComeBy 25 = .ok (.getfield 40, 3) := by decide +kernel
theorem dX8_isComeBy_28 : decode cX8_isComeBy 28 = .ok (.iload_n 3, 1) := by decide +kernel
theorem dX8_isComeBy_29 : decode cX8_isComeBy 29 = .ok (.aaload, 1) := by decide +kernel
theorem dX8_isComeBy_30 : decode cX8_isComeBy 30 = .ok (.iload 4, 2) := by decide +kernel
theorem dX8_isComeBy_32 : decode cX8_isComeBy 32 = .ok (.iaload, 1) := by decide +kernel
theorem dX8_isComeBy_33 : decode cX8_isComeBy 33 = .ok (.iload_n 2, 1) := by decide +kernel
theorem dX8_isComeBy_34 : decode cX8_isComeBy 34 = .ok (.if_icmp .ne 29, 3) := by decide +kernel
theorem dX8_isComeBy_37 : decode cX8_isComeBy 37 = .ok (.aload_n 0, 1) := by decide +kernel
theorem dX8_isComeBy_38 : decode cX8_isComeBy 38 = .ok (.aload_n 0, 1) := by decide +kernel
theorem dX8_isComeBy_39 : decode cX8_isComeBy 39 = .ok (.getfield 148, 3) := by decide +kernel
theorem dX8_isComeBy_42 : decode cX8_isComeBy 42 = .ok (.iload_n 3, 1) := by decide +kernel
theorem dX8_isComeBy_43 : decode cX8_isComeBy 43 = .ok (.iload_n 1, 1) := by decide +kernel
theorem dX8_isComeBy_44 : decode cX8_isComeBy 44 = .ok (.aload_n 0, 1) := by decide +kernel
theorem dX8_isComeBy_45 : decode cX8_isComeBy 45 = .ok (.getfield 43, 3) := by decide +kernel
theorem dX8_isComeBy_48 : decode cX8_isComeBy 48 = .ok (.iload_n 3, 1) := by decide +kernel
theorem dX8_isComeBy_49 : decode cX8_isComeBy 49 = .ok (.aaload, 1) := by decide +kernel
theorem dX8_isComeBy_50 : decode cX8_isComeBy 50 = .ok (.iload 4, 2) := by decide +kernel
theorem dX8_isComeBy_52 : decode cX8_isComeBy 52 = .ok (.iaload, 1) := by decide +kernel
theorem dX8_isComeBy_53 : decode cX8_isComeBy 53 = .ok (.bipush (-9), 2) := by decide +kernel
theorem dX8_isComeBy_55 : decode cX8_isComeBy 55 = .ok (.invokevirtual 178, 3) := by decide +kernel
theorem dX8_isComeBy_58 : decode cX8_isComeBy 58 = .ok (.ifCond .eq 5, 3) := by decide +kernel
theorem dX8_isComeBy_61 : decode cX8_isComeBy 61 = .ok (.iconst 1, 1) := by decide +kernel
theorem dX8_isComeBy_62 : decode cX8_isComeBy 62 = .ok (.ireturn, 1) := by decide +kernel
theorem dX8_isComeBy_63 : decode cX8_isComeBy 63 = .ok (.iinc 4 1, 3) := by decide +kernel
theorem dX8_isComeBy_66 : decode cX8_isComeBy 66 = .ok (.goto (-53), 3) := by decide +kernel
theorem dX8_isComeBy_69 : decode cX8_isComeBy 69 = .ok (.iinc 3 1, 3) := by decide +kernel
theorem dX8_isComeBy_72 : decode cX8_isComeBy 72 = .ok (.goto (-70), 3) := by decide +kernel
theorem dX8_isComeBy_75 : decode cX8_isComeBy 75 = .ok (.iconst 0, 1) := by decide +kernel
theorem dX8_isComeBy_76 : decode cX8_isComeBy 76 = .ok (.ireturn, 1) := by decide +kernel
theorem dX8_why_0 : decode cX8_why 0 = .ok (.aload_n 0, 1) := by decide +kernel
theorem dX8_why_1 : decode cX8_why 1 = .ok (.iload_n 1, 1) := by decide +kernel
theorem dX8_why_2 : decode cX8_why 2 = .ok (.invokevirtual 145, 3) := by decide +kernel
theorem dX8_why_5 : decode cX8_why 5 = .ok (.ifCond .ne 9, 3) := by decide +kernel
theorem dX8_why_8 : decode cX8_why 8 = .ok (.aload_n 0, 1) := by decide +kernel
theorem dX8_why_9 : decode cX8_why 9 = .ok (.iconst (-1), 1) := by decide +kernel
theorem dX8_why_10 : decode cX8_why 10 = .ok (.invokevirtual 71, 3) := by decide +kernel
theorem dX8_why_13 : decode cX8_why 13 = .ok (.ireturn, 1) := by decide +kernel
theorem dX8_why_14 : decode cX8_why 14 = .ok (.aload_n 0, 1) := by decide +kernel
theorem dX8_why_15 : decode cX8_why 15 = .ok (.invokevirtual 185, 3) := by decide +kernel
theorem dX8_why_18 : decode cX8_why 18 = .ok (.aload_n 0, 1) := by decide +kernel
theorem dX8_why_19 : decode cX8_why 19 = .ok (.aload_n 0, 1) := by decide +kernel
theorem dX8_why_20 : decode cX8_why 20 = .ok (.getfield 148, 3) := by decide +kernel
theorem dX8_why_23 : decode cX8_why 23 = .ok (.iload_n 1, 1) := by decide +kernel
theorem dX8_why_24 : decode cX8_why 24 = .ok (.bipush (-9), 2) := by decide +kernel
theorem dX8_why_26 : decode cX8_why 26 = .ok (.invokevirtual 188, 3) := by decide +kernel
theorem dX8_why_29 : decode cX8_why 29 = .ok (.bipush (-9), 2) := by decide +kernel
theorem dX8_why_31 : decode cX8_why 31 = .ok (.if_icmp .eq 5, 3) := by decide +kernel
theorem dX8_why_34 : decode cX8_why 34 = .ok (.iconst 0, 1) := by decide +kernel
theorem dX8_why_35 : decode cX8_why 35 = .ok (.ireturn, 1) := by decide +kernel
theorem dX8_why_36 : decode cX8_why 36 = .ok (.aload_n 0, 1) := by decide +kernel
theorem dX8_why_37 : decode cX8_why 37 = .ok (.iload_n 1, 1) := by decide +kernel
theorem dX8_why_38 : decode cX8_why 38 = .ok (.aload_n 0, 1) := by decide +kernel
theorem dX8_why_39 : decode cX8_why 39 = .ok (.getfield 31, 3) := by decide +kernel
theorem dX8_why_42 : decode cX8_why 42 = .ok (.iload_n 1, 1) := by decide +kernel
theorem dX8_why_43 : decode cX8_why 43 = .ok (.aaload, 1) := by decide +kernel
theorem dX8_why_44 : decode cX8_why 44 = .ok (.iconst 2, 1) := by decide +kernel
theorem dX8_why_45 : decode cX8_why 45 = .ok (.iaload, 1) := by decide +kernel
theorem dX8_why_46 : decode cX8_why 46 = .ok (.invokevirtual 199, 3) := by decide +kernel
theorem dX8_why_49 : decode cX8_why 49 = .ok (.ifCond .ne 7, 3) := by decide +kernel
theorem dX8_why_52 : decode cX8_why 52 = .ok (.iconst 1, 1) := by decide +kernel
theorem dX8_why_53 : decode cX8_why 53 = .ok (.goto 24, 3) := by decide +kernel
theorem dX8_why_56 : decode cX8_why 56 = .ok (.aload_n 0, 1) := by decide +kernel
theorem dX8_why_57 : decode cX8_why 57 = .ok (.iload_n 1, 1) := by decide +kernel
theorem dX8_why_58 : decode cX8_why 58 = .ok (.aload_n 0, 1) := by decide +kernel
theorem dX8_why_59 : decode cX8_why 59 = .ok (.getfield 31, 3) := by decide +kernel
theorem dX8_why_62 : decode cX8_why 62 = .ok (.iload_n 1, 1) := by decide +kernel
theorem dX8_why_63 : decode cX8_why 63 = .ok (.aaload, 1) := by decide +kernel
theorem dX8_why_64 : decode cX8_why 64 = .ok (.iconst 3, 1) := by decide +kernel
theorem dX8_why_65 : decode cX8_why 65 = .ok (.iaload, 1) := by decide +kernel
theorem dX8_why_66 : decode cX8_why 66 = .ok (.invokevirtual 199, 3) := by decide +kernel
theorem dX8_why_69 : decode cX8_why 69 = .ok (.ifCond .ne 7, 3) := by decide +kernel
theorem dX8_why_72 : decode cX8_why 72 = .ok (.iconst 2, 1) := by decide +kernel
theorem dX8_why_73 : decode cX8_why 73 = .ok (.goto 4, 3) := by decide +kernel
theorem dX8_why_76 : decode cX8_why 76 = .ok (.iconst 4, 1) := by decide +kernel
theorem dX8_why_77 : decode cX8_why 77 = .ok (.ireturn, 1) := by decide +kernel
theorem dX8_roundOf_0 : decode cX8_roundOf 0 = .ok (.aload_n 0, 1) := by decide +kernel
theorem dX8_roundOf_1 : decode cX8_roundOf 1 = .ok (.getfield 28, 3) := by decide +kernel
theorem dX8_roundOf_4 : decode cX8_roundOf 4 = .ok (.iload_n 1, 1) := by decide +kernel
theorem dX8_roundOf_5 : decode cX8_roundOf 5 = .ok (.aaload, 1) := by decide +kernel
theorem dX8_roundOf_6 : decode cX8_roundOf 6 = .ok (.astore_n 3, 1) := by decide +kernel
theorem dX8_roundOf_7 : decode cX8_roundOf 7 = .ok (.aload_n 0, 1) := by decide +kernel
theorem dX8_roundOf_8 : decode cX8_roundOf 8 = .ok (.getfield 31, 3) := by decide +kernel
theorem dX8_roundOf_11 : decode cX8_roundOf 11 = .ok (.iload_n 2, 1) := by decide +kernel
theorem dX8_roundOf_12 : decode cX8_roundOf 12 = .ok (.aaload, 1) := by decide +kernel
theorem dX8_roundOf_13 : decode cX8_roundOf 13 = .ok (.astore 4, 2) := by decide +kernel
theorem dX8_roundOf_15 : decode cX8_roundOf 15 = .ok (.aload_n 0, 1) := by decide +kernel
theorem dX8_roundOf_16 : decode cX8_roundOf 16 = .ok (.getfield 37, 3) := by decide +kernel
theorem dX8_roundOf_19 : decode cX8_roundOf 19 = .ok (.aload_n 3, 1) := by decide +kernel
theorem dX8_roundOf_20 : decode cX8_roundOf 20 = .ok (.iconst 0, 1) := by decide +kernel
theorem dX8_roundOf_21 : decode cX8_roundOf 21 = .ok (.iaload, 1) := by decide +kernel
theorem dX8_roundOf_22 : decode cX8_roundOf 22 = .ok (.aaload, 1) := by decide +kernel
theorem dX8_roundOf_23 : decode cX8_roundOf 23 = .ok (.aload 4, 2) := by decide +kernel
theorem dX8_roundOf_25 : decode cX8_roundOf 25 = .ok (.iconst 2, 1) := by decide +kernel
theorem dX8_roundOf_26 : decode cX8_roundOf 26 = .ok (.iaload, 1) := by decide +kernel
theorem dX8_roundOf_27 : decode cX8_roundOf 27 = .ok (.iaload, 1) := by decide +kernel
theorem dX8_roundOf_28 : decode cX8_roundOf 28 = .ok (.istore 5, 2) := by decide +kernel
theorem dX8_roundOf_30 : decode cX8_roundOf 30 = .ok (.aload_n 0, 1) := by decide +kernel
theorem dX8_roundOf_31 : decode cX8_roundOf 31 = .ok (.getfield 37, 3) := by decide +kernel
theorem dX8_roundOf_34 : decode cX8_roundOf 34 = .ok (.aload 4, 2) := by decide +kernel
theorem dX8_roundOf_36 : decode cX8_roundOf 36 = .ok (.iconst 2, 1) := by decide +kernel
theorem dX8_roundOf_37 : decode cX8_roundOf 37 = .ok (.iaload, 1) := by decide +kernel
theorem dX8_roundOf_38 : decode cX8_roundOf 38 = .ok (.aaload, 1) := by decide +kernel
theorem dX8_roundOf_39 : decode cX8_roundOf 39 = .ok (.aload 4, 2) := by decide +kernel
theorem dX8_roundOf_41 : decode cX8_roundOf 41 = .ok (.iconst 3, 1) := by decide +kernel
theorem dX8_roundOf_42 : decode cX8_roundOf 42 = .ok (.iaload, 1) := by decide +kernel
theorem dX8_roundOf_43 : decode cX8_roundOf 43 = .ok (.iaload, 1) := by decide +kernel
theorem dX8_roundOf_44 : decode cX8_roundOf 44 = .ok (.istore 6, 2) := by decide +kernel
theorem dX8_roundOf_46 : decode cX8_roundOf 46 = .ok (.aload_n 0, 1) := by decide +kernel
theorem dX8_roundOf_47 : decode cX8_roundOf 47 = .ok (.getfield 37, 3) := by decide +kernel
theorem dX8_roundOf_50 : decode cX8_roundOf 50 = .ok (.aload 4, 2) := by decide +kernel
theorem dX8_roundOf_52 : decode cX8_roundOf 52 = .ok (.iconst 3, 1) := by decide +kernel
theorem dX8_roundOf_53 : decode cX8_roundOf 53 = .ok (.iaload, 1) := by decide +kernel
theorem dX8_roundOf_54 : decode cX8_roundOf 54 = .ok (.aaload, 1) := by decide +kernel
theorem dX8_roundOf_55 : decode cX8_roundOf 55 = .ok (.aload_n 3, 1) := by decide +kernel
theorem dX8_roundOf_56 : decode cX8_roundOf 56 = .ok (.iconst 1, 1) := by decide +kernel
theorem dX8_roundOf_57 : decode cX8_roundOf 57 = .ok (.iaload, 1) := by decide +kernel
theorem dX8_roundOf_58 : decode cX8_roundOf 58 = .ok (.iaload, 1) := by decide +kernel
theorem dX8_roundOf_59 : decode cX8_roundOf 59 = .ok (.istore 7, 2) := by decide +kernel
theorem dX8_roundOf_61 : decode cX8_roundOf 61 = .ok (.iload 5, 2) := by decide +kernel
theorem dX8_roundOf_63 : decode cX8_roundOf 63 = .ok (.ldc 138, 2) := by decide +kernel
theorem dX8_roundOf_65 : decode cX8_roundOf 65 = .ok (.if_icmp .ge 17, 3) := by decide +kernel
theorem dX8_roundOf_68 : decode cX8_roundOf 68 = .ok (.iload 6, 2) := by decide +kernel
theorem dX8_roundOf_70 : decode cX8_roundOf 70 = .ok (.ldc 138, 2) := by decide +kernel
theorem dX8_roundOf_72 : decode cX8_roundOf 72 = .ok (.if_icmp .ge 10, 3) := by decide +kernel
theorem dX8_roundOf_75 : decode cX8_roundOf 75 = .ok (.iload 7, 2) := by decide +kernel
theorem dX8_roundOf_77 : decode cX8_roundOf 77 = .ok (.ldc 138, 2) := by decide +kernel
theorem dX8_roundOf_79 : decode cX8_roundOf 79 = .ok (.if_icmp .lt 6, 3) := by decide +kernel
theorem dX8_roundOf_82 : decode cX8_roundOf 82 = .ok (.bipush (-9), 2) := by decide +kernel
theorem dX8_roundOf_84 : decode cX8_roundOf 84 = .ok (.ireturn, 1) := by decide +kernel
theorem dX8_roundOf_85 : decode cX8_roundOf 85 = .ok (.aload_n 3, 1) := by decide +kernel
theorem dX8_roundOf_86 : decode cX8_roundOf 86 = .ok (.iconst 2, 1) := by decide +kernel
theorem dX8_roundOf_87 : decode cX8_roundOf 87 = .ok (.iaload, 1) := by decide +kernel
theorem dX8_roundOf_88 : decode cX8_roundOf 88 = .ok (.iload 5, 2) := by decide +kernel
theorem dX8_roundOf_90 : decode cX8_roundOf 90 = .ok (.iadd, 1) := by decide +kernel
theorem dX8_roundOf_91 : decode cX8_roundOf 91 = .ok (.istore 8, 2) := by decide +kernel
theorem dX8_roundOf_93 : decode cX8_roundOf 93 = .ok (.aload_n 0, 1) := by decide +kernel
theorem dX8_roundOf_94 : decode cX8_roundOf 94 = .ok (.aload_n 0, 1) := by decide +kernel
theorem dX8_roundOf_95 : decode cX8_roundOf 95 = .ok (.getfield 148, 3) := by decide +kernel
theorem dX8_roundOf_98 : decode cX8_roundOf 98 = .ok (.iload_n 1, 1) := by decide +kernel
theorem dX8_roundOf_99 : decode cX8_roundOf 99 = .ok (.iload_n 2, 1) := by decide +kernel
theorem dX8_roundOf_100 : decode cX8_roundOf 100 = .ok (.iload 8, 2) := by decide +kernel
theorem dX8_roundOf_102 : decode cX8_roundOf 102 = .ok (.bipush (-9), 2) := by decide +kernel
theorem dX8_roundOf_104 : decode cX8_roundOf 104 = .ok (.invokevirtual 178, 3) := by decide +kernel
theorem dX8_roundOf_107 : decode cX8_roundOf 107 = .ok (.ifCond .eq 23, 3) := by decide +kernel
theorem dX8_roundOf_110 : decode cX8_roundOf 110 = .ok (.iload 8, 2) := by decide +kernel
theorem dX8_roundOf_112 : decode cX8_roundOf 112 = .ok (.iload 6, 2) := by decide +kernel
theorem dX8_roundOf_114 : decode cX8_roundOf 114 = .ok (.iadd, 1) := by decide +kernel
theorem dX8_roundOf_115 : decode cX8_roundOf 115 = .ok (.aload 4, 2) := by decide +kernel
theorem dX8_roundOf_117 : decode cX8_roundOf 117 = .ok (.iconst 5, 1) := by decide +kernel
theorem dX8_roundOf_118 : decode cX8_roundOf 118 = .ok (.iaload, 1) := by decide +kernel
theorem dX8_roundOf_119 : decode cX8_roundOf 119 = .ok (.if_icmp .gt 11, 3) := by decide +kernel
theorem dX8_roundOf_122 : decode cX8_roundOf 122 = .ok (.iload 8, 2) := by decide +kernel
theorem dX8_roundOf_124 : decode cX8_roundOf 124 = .ok (.iload 6, 2) := by decide +kernel
theorem dX8_roundOf_126 : decode cX8_roundOf 126 = .ok (.iadd, 1) := by decide +kernel
theorem dX8_roundOf_127 : decode cX8_roundOf 127 = .ok (.goto 5, 3) := by decide +kernel
theorem dX8_roundOf_130 : decode cX8_roundOf 130 = .ok (.bipush (-9), 2) := by decide +kernel
theorem dX8_roundOf_132 : decode cX8_roundOf 132 = .ok (.ireturn, 1) := by decide +kernel
theorem dX8_moreOf_0 : decode cX8_moreOf 0 = .ok (.aload_n 0, 1) := by decide +kernel
theorem dX8_moreOf_1 : decode cX8_moreOf 1 = .ok (.getfield 28, 3) := by decide +kernel
theorem dX8_moreOf_4 : decode cX8_moreOf 4 = .ok (.iload_n 1, 1) := by decide +kernel
theorem dX8_moreOf_5 : decode cX8_moreOf 5 = .ok (.aaload, 1) := by decide +kernel
theorem dX8_moreOf_6 : decode cX8_moreOf 6 = .ok (.astore_n 3, 1) := by decide +kernel
theorem dX8_moreOf_7 : decode cX8_moreOf 7 = .ok (.aload_n 0, 1) := by decide +kernel
theorem dX8_moreOf_8 : decode cX8_moreOf 8 = .ok (.getfield 31, 3) := by decide +kernel
theorem dX8_moreOf_11 : decode cX8_moreOf 11 = .ok (.iload_n 2, 1) := by decide +kernel
theorem dX8_moreOf_12 : decode cX8_moreOf 12 = .ok (.aaload, 1) := by decide +kernel
theorem dX8_moreOf_13 : decode cX8_moreOf 13 = .ok (.astore 4, 2) := by decide +kernel
theorem dX8_moreOf_15 : decode cX8_moreOf 15 = .ok (.aload_n 0, 1) := by decide +kernel
theorem dX8_moreOf_16 : decode cX8_moreOf 16 = .ok (.getfield 37, 3) := by decide +kernel
theorem dX8_moreOf_19 : decode cX8_moreOf 19 = .ok (.aload_n 3, 1) := by decide +kernel
theorem dX8_moreOf_20 : decode cX8_moreOf 20 = .ok (.iconst 0, 1) := by decide +kernel
theorem dX8_moreOf_21 : decode cX8_moreOf 21 = .ok (.iaload, 1) := by decide +kernel
theorem dX8_moreOf_22 : decode cX8_moreOf 22 = .ok (.aaload, 1) := by decide +kernel
theorem dX8_moreOf_23 : decode cX8_moreOf 23 = .ok (.aload 4, 2) := by decide +kernel
theorem dX8_moreOf_25 : decode cX8_moreOf 25 = .ok (.iconst 2, 1) := by decide +kernel
theorem dX8_moreOf_26 : decode cX8_moreOf 26 = .ok (.iaload, 1) := by decide +kernel
theorem dX8_moreOf_27 : decode cX8_moreOf 27 = .ok (.iaload, 1) := by decide +kernel
theorem dX8_moreOf_28 : decode cX8_moreOf 28 = .ok (.aload_n 0, 1) := by decide +kernel
theorem dX8_moreOf_29 : decode cX8_moreOf 29 = .ok (.getfield 37, 3) := by decide +kernel
theorem dX8_moreOf_32 : decode cX8_moreOf 32 = .ok (.aload 4, 2) := by decide +kernel
theorem dX8_moreOf_34 : decode cX8_moreOf 34 = .ok (.iconst 2, 1) := by decide +kernel
theorem dX8_moreOf_35 : decode cX8_moreOf 35 = .ok (.iaload, 1) := by decide +kernel
theorem dX8_moreOf_36 : decode cX8_moreOf 36 = .ok (.aaload, 1) := by decide +kernel
theorem dX8_moreOf_37 : decode cX8_moreOf 37 = .ok (.aload 4, 2) := by decide +kernel
theorem dX8_moreOf_39 : decode cX8_moreOf 39 = .ok (.iconst 3, 1) := by decide +kernel
theorem dX8_moreOf_40 : decode cX8_moreOf 40 = .ok (.iaload, 1) := by decide +kernel
theorem dX8_moreOf_41 : decode cX8_moreOf 41 = .ok (.iaload, 1) := by decide +kernel
theorem dX8_moreOf_42 : decode cX8_moreOf 42 = .ok (.iadd, 1) := by decide +kernel
theorem dX8_moreOf_43 : decode cX8_moreOf 43 = .ok (.aload_n 0, 1) := by decide +kernel
theorem dX8_moreOf_44 : decode cX8_moreOf 44 = .ok (.getfield 37, 3) := by decide +kernel
theorem dX8_moreOf_47 : decode cX8_moreOf 47 = .ok (.aload 4, 2) := by decide +kernel
theorem dX8_moreOf_49 : decode cX8_moreOf 49 = .ok (.iconst 3, 1) := by decide +kernel
theorem dX8_moreOf_50 : decode cX8_moreOf 50 = .ok (.iaload, 1) := by decide +kernel
theorem dX8_moreOf_51 : decode cX8_moreOf 51 = .ok (.aaload, 1) := by decide +kernel
theorem dX8_moreOf_52 : decode cX8_moreOf 52 = .ok (.aload_n 3, 1) := by decide +kernel
theorem dX8_moreOf_53 : decode cX8_moreOf 53 = .ok (.iconst 1, 1) := by decide +kernel
theorem dX8_moreOf_54 : decode cX8_moreOf 54 = .ok (.iaload, 1) := by decide +kernel
theorem dX8_moreOf_55 : decode cX8_moreOf 55 = .ok (.iaload, 1) := by decide +kernel
theorem dX8_moreOf_56 : decode cX8_moreOf 56 = .ok (.iadd, 1) := by decide +kernel
theorem dX8_moreOf_57 : decode cX8_moreOf 57 = .ok (.aload_n 0, 1) := by decide +kernel
theorem dX8_moreOf_58 : decode cX8_moreOf 58 = .ok (.getfield 37, 3) := by decide +kernel
theorem dX8_moreOf_61 : decode cX8_moreOf 61 = .ok (.aload_n 3, 1) := by decide +kernel
theorem dX8_moreOf_62 : decode cX8_moreOf 62 = .ok (.iconst 0, 1) := by decide +kernel
theorem dX8_moreOf_63 : decode cX8_moreOf 63 = .ok (.iaload, 1) := by decide +kernel
theorem dX8_moreOf_64 : decode cX8_moreOf 64 = .ok (.aaload, 1) := by decide +kernel
theorem dX8_moreOf_65 : decode cX8_moreOf 65 = .ok (.aload_n 3, 1) := by decide +kernel
theorem dX8_moreOf_66 : decode cX8_moreOf 66 = .ok (.iconst 1, 1) := by decide +kernel
theorem dX8_moreOf_67 : decode cX8_moreOf 67 = .ok (.iaload, 1) := by decide +kernel
theorem dX8_moreOf_68 : decode cX8_moreOf 68 = .ok (.iaload, 1) := by decide +kernel
theorem dX8_moreOf_69 : decode cX8_moreOf 69 = .ok (.isub, 1) := by decide +kernel
theorem dX8_moreOf_70 : decode cX8_moreOf 70 = .ok (.ireturn, 1) := by decide +kernel
theorem dX8_round_0 : decode cX8_round 0 = .ok (.aload_n 0, 1) := by decide +kernel
theorem dX8_round_1 : decode cX8_round 1 = .ok (.iload_n 1, 1) := by decide +kernel
theorem dX8_round_2 : decode cX8_round 2 = .ok (.invokevirtual 108, 3) := by decide +kernel
theorem dX8_round_5 : decode cX8_round 5 = .ok (.ifCond .eq 11, 3) := by decide +kernel
theorem dX8_round_8 : decode cX8_round 8 = .ok (.aload_n 0, 1) := by decide +kernel
theorem dX8_round_9 : decode cX8_round 9 = .ok (.iload_n 2, 1) := by decide +kernel
theorem dX8_round_10 : decode cX8_round 10 = .ok (.invokevirtual 145, 3) := by decide +kernel
theorem dX8_round_13 : decode cX8_round 13 = .ok (.ifCond .ne 9, 3) := by decide +kernel
theorem dX8_round_16 : decode cX8_round 16 = .ok (.aload_n 0, 1) := by decide +kernel
theorem dX8_round_17 : decode cX8_round 17 = .ok (.iconst (-1), 1) := by decide +kernel
theorem dX8_round_18 : decode cX8_round 18 = .ok (.invokevirtual 71, 3) := by decide +kernel
theorem dX8_round_21 : decode cX8_round 21 = .ok (.ireturn, 1) := by decide +kernel
theorem dX8_round_22 : decode cX8_round 22 = .ok (.iload_n 3, 1) := by decide +kernel
theorem dX8_round_23 : decode cX8_round 23 = .ok (.iconst 0, 1) := by decide +kernel
theorem dX8_round_24 : decode cX8_round 24 = .ok (.iconst 1, 1) := by decide +kernel
theorem dX8_round_25 : decode cX8_round 25 = .ok (.invokestatic 61, 3) := by decide +kernel
theorem dX8_round_28 : decode cX8_round 28 = .ok (.ifCond .ne 10, 3) := by decide +kernel
theorem dX8_round_31 : decode cX8_round 31 = .ok (.aload_n 0, 1) := by decide +kernel
theorem dX8_round_32 : decode cX8_round 32 = .ok (.bipush (-2), 2) := by decide +kernel
theorem dX8_round_34 : decode cX8_round 34 = .ok (.invokevirtual 71, 3) := by decide +kernel
theorem dX8_round_37 : decode cX8_round 37 = .ok (.ireturn, 1) := by decide +kernel
theorem dX8_round_38 : decode cX8_round 38 = .ok (.aload_n 0, 1) := by decide +kernel
theorem dX8_round_39 : decode cX8_round 39 = .ok (.invokevirtual 139, 3) := by decide +kernel
theorem dX8_round_42 : decode cX8_round 42 = .ok (.aload_n 0, 1) := by decide +kernel
theorem dX8_round_43 : decode cX8_round 43 = .ok (.iload_n 1, 1) := by decide +kernel
theorem dX8_round_44 : decode cX8_round 44 = .ok (.iload_n 2, 1) := by decide +kernel
theorem dX8_round_45 : decode cX8_round 45 = .ok (.invokevirtual 202, 3) := by decide +kernel
theorem dX8_round_48 : decode cX8_round 48 = .ok (.istore 4, 2) := by decide +kernel
theorem dX8_round_50 : decode cX8_round 50 = .ok (.iload 4, 2) := by decide +kernel
theorem dX8_round_52 : decode cX8_round 52 = .ok (.bipush (-9), 2) := by decide +kernel
theorem dX8_round_54 : decode cX8_round 54 = .ok (.if_icmp .eq 7, 3) := by decide +kernel
theorem dX8_round_57 : decode cX8_round 57 = .ok (.iload_n 3, 1) := by decide +kernel
theorem dX8_round_58 : decode cX8_round 58 = .ok (.ifCond .ne 8, 3) := by decide +kernel
theorem dX8_round_61 : decode cX8_round 61 = .ok (.iload 4, 2) := by decide +kernel
theorem dX8_round_63 : decode cX8_round 63 = .ok (.goto 9, 3) := by decide +kernel
theorem dX8_round_66 : decode cX8_round 66 = .ok (.aload_n 0, 1) := by decide +kernel
theorem dX8_round_67 : decode cX8_round 67 = .ok (.iload_n 1, 1) := by decide +kernel
theorem dX8_round_68 : decode cX8_round 68 = .ok (.iload_n 2, 1) := by decide +kernel
theorem dX8_round_69 : decode cX8_round 69 = .ok (.invokevirtual 205, 3) := by decide +kernel
theorem dX8_round_72 : decode cX8_round 72 = .ok (.ireturn, 1) := by decide +kernel
theorem dX8_seek_0 : decode cX8_seek 0 = .ok (.iload_n 1, 1) := by decide +kernel
theorem dX8_seek_1 : decode cX8_seek 1 = .ok (.aload_n 0, 1) := by decide +kernel
theorem dX8_seek_2 : decode cX8_seek 2 = .ok (.getfield 65, 3) := by decide +kernel
theorem dX8_seek_5 : decode cX8_seek 5 = .ok (.if_icmp .ne 49, 3) := by decide +kernel
theorem dX8_seek_8 : decode cX8_seek 8 = .ok (.iload_n 3, 1) := by decide +kernel
theorem dX8_seek_9 : decode cX8_seek 9 = .ok (.aload_n 0, 1) := by decide +kernel
theorem dX8_seek_10 : decode cX8_seek 10 = .ok (.getfield 208, 3) := by decide +kernel
theorem dX8_seek_13 : decode cX8_seek 13 = .ok (.if_icmp .le 40, 3) := by decide +kernel
theorem dX8_seek_16 : decode cX8_seek 16 = .ok (.aload_n 0, 1) := by decide +kernel
theorem dX8_seek_17 : decode cX8_seek 17 = .ok (.iload_n 3, 1) := by decide +kernel
theorem dX8_seek_18 : decode cX8_seek 18 = .ok (.putfield 208, 3) := by decide +kernel
theorem dX8_seek_21 : decode cX8_seek 21 = .ok (.iconst 0, 1) := by decide +kernel
theorem dX8_seek_22 : decode cX8_seek 22 = .ok (.istore 5, 2) := by decide +kernel
theorem dX8_seek_24 : decode cX8_seek 24 = .ok (.iload 5, 2) := by decide +kernel
theorem dX8_seek_26 : decode cX8_seek 26 = .ok (.aload_n 0, 1) := by decide +kernel
theorem dX8_seek_27 : decode cX8_seek 27 = .ok (.getfield 65, 3) := by decide +kernel
theorem dX8_seek_30 : decode cX8_seek 30 = .ok (.if_icmp .ge 23, 3) := by decide +kernel
theorem dX8_seek_33 : decode cX8_seek 33 = .ok (.aload_n 0, 1) := by decide +kernel
theorem dX8_seek_34 : decode cX8_seek 34 = .ok (.getfield 58, 3) := by decide +kernel
theorem dX8_seek_37 : decode cX8_seek 37 = .ok (.iload 5, 2) := by decide +kernel
theorem dX8_seek_39 : decode cX8_seek 39 = .ok (.aload_n 0, 1) := by decide +kernel
theorem dX8_seek_40 : decode cX8_seek 40 = .ok (.getfield 55, 3) := by decide +kernel
theorem dX8_seek_43 : decode cX8_seek 43 = .ok (.iload 5, 2) := by decide +kernel
theorem dX8_seek_45 : decode cX8_seek 45 = .ok (.iaload, 1) := by decide +kernel
theorem dX8_seek_46 : decode cX8_seek 46 = .ok (.iastore, 1) := by decide +kernel
theorem dX8_seek_47 : decode cX8_seek 47 = .ok (.iinc 5 1, 3) := by decide +kernel
theorem dX8_seek_50 : decode cX8_seek 50 = .ok (.goto (-26), 3) := by decide +kernel
theorem dX8_seek_53 : decode cX8_seek 53 = .ok (.return_, 1) := by decide +kernel
theorem dX8_seek_54 : decode cX8_seek 54 = .ok (.aload_n 0, 1) := by decide +kernel
theorem dX8_seek_55 : decode cX8_seek 55 = .ok (.getfield 55, 3) := by decide +kernel
theorem dX8_seek_58 : decode cX8_seek 58 = .ok (.iload_n 1, 1) := by decide +kernel
theorem dX8_seek_59 : decode cX8_seek 59 = .ok (.bipush (-9), 2) := by decide +kernel
theorem dX8_seek_61 : decode cX8_seek 61 = .ok (.iastore, 1) := by decide +kernel
theorem dX8_seek_62 : decode cX8_seek 62 = .ok (.aload_n 0, 1) := by decide +kernel
theorem dX8_seek_63 : decode cX8_seek 63 = .ok (.iload_n 1, 1) := by decide +kernel
theorem dX8_seek_64 : decode cX8_seek 64 = .ok (.iconst 1, 1) := by decide +kernel
theorem dX8_seek_65 : decode cX8_seek 65 = .ok (.iadd, 1) := by decide +kernel
theorem dX8_seek_66 : decode cX8_seek 66 = .ok (.iload_n 2, 1) := by decide +kernel
theorem dX8_seek_67 : decode cX8_seek 67 = .ok (.iload_n 3, 1) := by decide +kernel
theorem dX8_seek_68 : decode cX8_seek 68 = .ok (.iload 4, 2) := by decide +kernel
theorem dX8_seek_70 : decode cX8_seek 70 = .ok (.invokevirtual 211, 3) := by decide +kernel
theorem dX8_seek_73 : decode cX8_seek 73 = .ok (.iconst 0, 1) := by decide +kernel
theorem dX8_seek_74 : decode cX8_seek 74 = .ok (.istore 5, 2) := by decide +kernel
theorem dX8_seek_76 : decode cX8_seek 76 = .ok (.iload 5, 2) := by decide +kernel
theorem dX8_seek_78 : decode cX8_seek 78 = .ok (.aload_n 0, 1) := by decide +kernel
theorem dX8_seek_79 : decode cX8_seek 79 = .ok (.getfield 68, 3) := by decide +kernel
theorem dX8_seek_82 : decode cX8_seek 82 = .ok (.if_icmp .ge 79, 3) := by decide +kernel
theorem dX8_seek_85 : decode cX8_seek 85 = .ok (.iload_n 1, 1) := by decide +kernel
theorem dX8_seek_86 : decode cX8_seek 86 = .ok (.iload 4, 2) := by decide +kernel
theorem dX8_seek_88 : decode cX8_seek 88 = .ok (.if_icmp .eq 73, 3) := by decide +kernel
theorem dX8_seek_91 : decode cX8_seek 91 = .ok (.iload_n 2, 1) := by decide +kernel
theorem dX8_seek_92 : decode cX8_seek 92 = .ok (.iload 5, 2) := by decide +kernel
theorem dX8_seek_94 : decode cX8_seek 94 = .ok (.ishr, 1) := by decide +kernel
theorem dX8_seek_95 : decode cX8_seek 95 = .ok (.iconst 1, 1) := by decide +kernel
theorem dX8_seek_96 : decode cX8_seek 96 = .ok (.iand, 1) := by decide +kernel
theorem dX8_seek_97 : decode cX8_seek 97 = .ok (.ifCond .ne 58, 3) := by decide +kernel
theorem dX8_seek_100 : decode cX8_seek 100 = .ok (.aload_n 0, 1) := by decide +kernel
theorem dX8_seek_101 : decode cX8_seek 101 = .ok (.iload_n 1, 1) := by decide +kernel
theorem dX8_seek_102 : decode cX8_seek 102 = .ok (.iload 5, 2) := by decide +kernel
theorem dX8_seek_104 : decode cX8_seek 104 = .ok (.invokevirtual 202, 3) := by decide +kernel
theorem dX8_seek_107 : decode cX8_seek 107 = .ok (.bipush (-9), 2) := by decide +kernel
theorem dX8_seek_109 : decode cX8_seek 109 = .ok (.if_icmp .eq 46, 3) := by decide +kernel
theorem dX8_seek_112 : decode cX8_seek 112 = .ok (.aload_n 0, 1) := by decide +kernel
theorem dX8_seek_113 : decode cX8_seek 113 = .ok (.getfield 55, 3) := by decide +kernel
theorem dX8_seek_116 : decode cX8_seek 116 = .ok (.iload_n 1, 1) := by decide +kernel
theorem dX8_seek_117 : decode cX8_seek 117 = .ok (.iload 5, 2) := by decide +kernel
theorem dX8_seek_119 : decode cX8_seek 119 = .ok (.iastore, 1) := by decide +kernel
theorem dX8_seek_120 : decode cX8_seek 120 = .ok (.aload_n 0, 1) := by decide +kernel
theorem dX8_seek_121 : decode cX8_seek 121 = .ok (.iload_n 1, 1) := by decide +kernel
theorem dX8_seek_122 : decode cX8_seek 122 = .ok (.iconst 1, 1) := by decide +kernel
theorem dX8_seek_123 : decode cX8_seek 123 = .ok (.iadd, 1) := by decide +kernel
theorem dX8_seek_124 : decode cX8_seek 124 = .ok (.iload_n 2, 1) := by decide +kernel
theorem dX8_seek_125 : decode cX8_seek 125 = .ok (.iconst 1, 1) := by decide +kernel
theorem dX8_seek_126 : decode cX8_seek 126 = .ok (.iload 5, 2) := by decide +kernel
theorem dX8_seek_128 : decode cX8_seek 128 = .ok (.ishl, 1) := by decide +kernel
theorem dX8_seek_129 : decode cX8_seek 129 = .ok (.ior, 1) := by decide +kernel
theorem dX8_seek_130 : decode cX8_seek 130 = .ok (.iload_n 3, 1) := by decide +kernel
theorem dX8_seek_131 : decode cX8_seek 131 = .ok (.aload_n 0, 1) := by decide +kernel
theorem dX8_seek_132 : decode cX8_seek 132 = .ok (.getfield 31, 3) := by decide +kernel
theorem dX8_seek_135 : decode cX8_seek 135 = .ok (.iload 5, 2) := by decide +kernel
theorem dX8_seek_137 : decode cX8_seek 137 = .ok (.aaload, 1) := by decide +kernel
theorem dX8_seek_138 : decode cX8_seek 138 = .ok (.bipush 6, 2) := by decide +kernel
theorem dX8_seek_140 : decode cX8_seek 140 = .ok (.iaload, 1) := by decide +kernel
theorem dX8_seek_141 : decode cX8_seek 141 = .ok (.iadd, 1) := by decide +kernel
theorem dX8_seek_142 : decode cX8_seek 142 = .ok (.aload_n 0, 1) := by decide +kernel
theorem dX8_seek_143 : decode cX8_seek 143 = .ok (.iload_n 1, 1) := by decide +kernel
theorem dX8_seek_144 : decode cX8_seek 144 = .ok (.iload 5, 2) := by decide +kernel
theorem dX8_seek_146 : decode cX8_seek 146 = .ok (.invokevirtual 205, 3) := by decide +kernel
theorem dX8_seek_149 : decode cX8_seek 149 = .ok (.isub, 1) := by decide +kernel
theorem dX8_seek_150 : decode cX8_seek 150 = .ok (.iload 4, 2) := by decide +kernel
theorem dX8_seek_152 : decode cX8_seek 152 = .ok (.invokevirtual 211, 3) := by decide +kernel
theorem dX8_seek_155 : decode cX8_seek 155 = .ok (.iinc 5 1, 3) := by decide +kernel
theorem dX8_seek_158 : decode cX8_seek 158 = .ok (.goto (-82), 3) := by decide +kernel
theorem dX8_seek_161 : decode cX8_seek 161 = .ok (.aload_n 0, 1) := by decide +kernel
theorem dX8_seek_162 : decode cX8_seek 162 = .ok (.getfield 55, 3) := by decide +kernel
theorem dX8_seek_165 : decode cX8_seek 165 = .ok (.iload_n 1, 1) := by decide +kernel
theorem dX8_seek_166 : decode cX8_seek 166 = .ok (.bipush (-9), 2) := by decide +kernel
theorem dX8_seek_168 : decode cX8_seek 168 = .ok (.iastore, 1) := by decide +kernel
theorem dX8_seek_169 : decode cX8_seek 169 = .ok (.return_, 1) := by decide +kernel
theorem dX8_eachBy_0 : decode cX8_eachBy 0 = .ok (.aload_n 0, 1) := by decide +kernel
theorem dX8_eachBy_1 : decode cX8_eachBy 1 = .ok (.invokevirtual 139, 3) := by decide +kernel
theorem dX8_eachBy_4 : decode cX8_eachBy 4 = .ok (.aload_n 0, 1) := by decide +kernel
theorem dX8_eachBy_5 : decode cX8_eachBy 5 = .ok (.iconst 0, 1) := by decide +kernel
theorem dX8_eachBy_6 : decode cX8_eachBy 6 = .ok (.putfield 208, 3) := by decide +kernel
theorem dX8_eachBy_9 : decode cX8_eachBy 9 = .ok (.iconst 0, 1) := by decide +kernel
theorem dX8_eachBy_10 : decode cX8_eachBy 10 = .ok (.istore_n 2, 1) := by decide +kernel
theorem dX8_eachBy_11 : decode cX8_eachBy 11 = .ok (.iload_n 2, 1) := by decide +kernel
theorem dX8_eachBy_12 : decode cX8_eachBy 12 = .ok (.aload_n 0, 1) := by decide +kernel
theorem dX8_eachBy_13 : decode cX8_eachBy 13 = .ok (.getfield 65, 3) := by decide +kernel
theorem dX8_eachBy_16 : decode cX8_eachBy 16 = .ok (.if_icmp .ge 17, 3) := by decide +kernel
theorem dX8_eachBy_19 : decode cX8_eachBy 19 = .ok (.aload_n 0, 1) := by decide +kernel
theorem dX8_eachBy_20 : decode cX8_eachBy 20 = .ok (.getfield 58, 3) := by decide +kernel
theorem dX8_eachBy_23 : decode cX8_eachBy 23 = .ok (.iload_n 2, 1) := by decide +kernel
theorem dX8_eachBy_24 : decode cX8_eachBy 24 = .ok (.bipush (-9), 2) := by decide +kernel
theorem dX8_eachBy_26 : decode cX8_eachBy 26 = .ok (.iastore, 1) := by decide +kernel
theorem dX8_eachBy_27 : decode cX8_eachBy 27 = .ok (.iinc 2 1, 3) := by decide +kernel
theorem dX8_eachBy_30 : decode cX8_eachBy 30 = .ok (.goto (-19), 3) := by decide +kernel
theorem dX8_eachBy_33 : decode cX8_eachBy 33 = .ok (.aload_n 0, 1) := by decide +kernel
theorem dX8_eachBy_34 : decode cX8_eachBy 34 = .ok (.iconst 0, 1) := by decide +kernel
theorem dX8_eachBy_35 : decode cX8_eachBy 35 = .ok (.iconst 0, 1) := by decide +kernel
theorem dX8_eachBy_36 : decode cX8_eachBy 36 = .ok (.iconst 0, 1) := by decide +kernel
theorem dX8_eachBy_37 : decode cX8_eachBy 37 = .ok (.iload_n 1, 1) := by decide +kernel
theorem dX8_eachBy_38 : decode cX8_eachBy 38 = .ok (.invokevirtual 211, 3) := by decide +kernel
theorem dX8_eachBy_41 : decode cX8_eachBy 41 = .ok (.aload_n 0, 1) := by decide +kernel
theorem dX8_eachBy_42 : decode cX8_eachBy 42 = .ok (.getfield 208, 3) := by decide +kernel
theorem dX8_eachBy_45 : decode cX8_eachBy 45 = .ok (.ireturn, 1) := by decide +kernel
theorem dX8_each_0 : decode cX8_each 0 = .ok (.iload_n 1, 1) := by decide +kernel
theorem dX8_each_1 : decode cX8_each 1 = .ok (.iconst (-1), 1) := by decide +kernel
theorem dX8_each_2 : decode cX8_each 2 = .ok (.if_icmp .eq 17, 3) := by decide +kernel
theorem dX8_each_5 : decode cX8_each 5 = .ok (.aload_n 0, 1) := by decide +kernel
theorem dX8_each_6 : decode cX8_each 6 = .ok (.iload_n 1, 1) := by decide +kernel
theorem dX8_each_7 : decode cX8_each 7 = .ok (.invokevirtual 108, 3) := by decide +kernel
theorem dX8_each_10 : decode cX8_each 10 = .ok (.ifCond .ne 9, 3) := by decide +kernel
theorem dX8_each_13 : decode cX8_each 13 = .ok (.aload_n 0, 1) := by decide +kernel
theorem dX8_each_14 : decode cX8_each 14 = .ok (.iconst (-1), 1) := by decide +kernel
theorem dX8_each_15 : decode cX8_each 15 = .ok (.invokevirtual 71, 3) := by decide +kernel
theorem dX8_each_18 : decode cX8_each 18 = .ok (.ireturn, 1) := by decide +kernel
theorem dX8_each_19 : decode cX8_each 19 = .ok (.aload_n 0, 1) := by decide +kernel
theorem dX8_each_20 : decode cX8_each 20 = .ok (.bipush (-9), 2) := by decide +kernel
theorem dX8_each_22 : decode cX8_each 22 = .ok (.invokevirtual 215, 3) := by decide +kernel
theorem dX8_each_25 : decode cX8_each 25 = .ok (.istore_n 2, 1) := by decide +kernel
theorem dX8_each_26 : decode cX8_each 26 = .ok (.iload_n 1, 1) := by decide +kernel
theorem dX8_each_27 : decode cX8_each 27 = .ok (.iconst (-1), 1) := by decide +kernel
theorem dX8_each_28 : decode cX8_each 28 = .ok (.if_icmp .ne 7, 3) := by decide +kernel
theorem dX8_each_31 : decode cX8_each 31 = .ok (.iload_n 2, 1) := by decide +kernel
theorem dX8_each_32 : decode cX8_each 32 = .ok (.goto 9, 3) := by decide +kernel
theorem dX8_each_35 : decode cX8_each 35 = .ok (.aload_n 0, 1) := by decide +kernel
theorem dX8_each_36 : decode cX8_each 36 = .ok (.getfield 58, 3) := by decide +kernel
theorem dX8_each_39 : decode cX8_each 39 = .ok (.iload_n 1, 1) := by decide +kernel
theorem dX8_each_40 : decode cX8_each 40 = .ok (.iaload, 1) := by decide +kernel
theorem dX8_each_41 : decode cX8_each 41 = .ok (.ireturn, 1) := by decide +kernel
theorem dX8_pay_0 : decode cX8_pay 0 = .ok (.aload_n 0, 1) := by decide +kernel
theorem dX8_pay_1 : decode cX8_pay 1 = .ok (.iload_n 1, 1) := by decide +kernel
theorem dX8_pay_2 : decode cX8_pay 2 = .ok (.invokevirtual 108, 3) := by decide +kernel
theorem dX8_pay_5 : decode cX8_pay 5 = .ok (.ifCond .ne 9, 3) := by decide +kernel
theorem dX8_pay_8 : decode cX8_pay 8 = .ok (.aload_n 0, 1) := by decide +kernel
theorem dX8_pay_9 : decode cX8_pay 9 = .ok (.iconst (-1), 1) := by decide +kernel
theorem dX8_pay_10 : decode cX8_pay 10 = .ok (.invokevirtual 71, 3) := by decide +kernel
theorem dX8_pay_13 : decode cX8_pay 13 = .ok (.ireturn, 1) := by decide +kernel
theorem dX8_pay_14 : decode cX8_pay 14 = .ok (.aload_n 0, 1) := by decide +kernel
theorem dX8_pay_15 : decode cX8_pay 15 = .ok (.bipush (-9), 2) := by decide +kernel
theorem dX8_pay_17 : decode cX8_pay 17 = .ok (.invokevirtual 215, 3) := by decide +kernel
theorem dX8_pay_20 : decode cX8_pay 20 = .ok (.aload_n 0, 1) := by decide +kernel
theorem dX8_pay_21 : decode cX8_pay 21 = .ok (.iload_n 1, 1) := by decide +kernel
theorem dX8_pay_22 : decode cX8_pay 22 = .ok (.invokevirtual 215, 3) := by decide +kernel
theorem dX8_pay_25 : decode cX8_pay 25 = .ok (.isub, 1) := by decide +kernel
theorem dX8_pay_26 : decode cX8_pay 26 = .ok (.ireturn, 1) := by decide +kernel
theorem dX8_isInTime_0 : decode cX8_isInTime 0 = .ok (.aload_n 0, 1) := by decide +kernel
theorem dX8_isInTime_1 : decode cX8_isInTime 1 = .ok (.aload_n 0, 1) := by decide +kernel
theorem dX8_isInTime_2 : decode cX8_isInTime 2 = .ok (.getfield 148, 3) := by decide +kernel
theorem dX8_isInTime_5 : decode cX8_isInTime 5 = .ok (.iload_n 1, 1) := by decide +kernel
theorem dX8_isInTime_6 : decode cX8_isInTime 6 = .ok (.bipush (-9), 2) := by decide +kernel
theorem dX8_isInTime_8 : decode cX8_isInTime 8 = .ok (.invokevirtual 188, 3) := by decide +kernel
theorem dX8_isInTime_11 : decode cX8_isInTime 11 = .ok (.istore_n 2, 1) := by decide +kernel
theorem dX8_isInTime_12 : decode cX8_isInTime 12 = .ok (.iload_n 2, 1) := by decide +kernel
theorem dX8_isInTime_13 : decode cX8_isInTime 13 = .ok (.bipush (-9), 2) := by decide +kernel
theorem dX8_isInTime_15 : decode cX8_isInTime 15 = .ok (.if_icmp .eq 19, 3) := by decide +kernel
theorem dX8_isInTime_18 : decode cX8_isInTime 18 = .ok (.iload_n 2, 1) := by decide +kernel
theorem dX8_isInTime_19 : decode cX8_isInTime 19 = .ok (.aload_n 0, 1) := by decide +kernel
theorem dX8_isInTime_20 : decode cX8_isInTime 20 = .ok (.getfield 31, 3) := by decide +kernel
theorem dX8_isInTime_23 : decode cX8_isInTime 23 = .ok (.iload_n 1, 1) := by decide +kernel
theorem dX8_isInTime_24 : decode cX8_isInTime 24 = .ok (.aaload, 1) := by decide +kernel
theorem dX8_isInTime_25 : decode cX8_isInTime 25 = .ok (.iconst 5, 1) := by decide +kernel
theorem dX8_isInTime_26 : decode cX8_isInTime 26 = .ok (.iaload, 1) := by decide +kernel
theorem dX8_isInTime_27 : decode cX8_isInTime 27 = .ok (.if_icmp .gt 7, 3) := by decide +kernel
theorem dX8_isInTime_30 : decode cX8_isInTime 30 = .ok (.iconst 1, 1) := by decide +kernel
theorem dX8_isInTime_31 : decode cX8_isInTime 31 = .ok (.goto 4, 3) := by decide +kernel
theorem dX8_isInTime_34 : decode cX8_isInTime 34 = .ok (.iconst 0, 1) := by decide +kernel
theorem dX8_isInTime_35 : decode cX8_isInTime 35 = .ok (.ireturn, 1) := by decide +kernel
theorem dX8_fewest_0 : decode cX8_fewest 0 = .ok (.aload_n 0, 1) := by decide +kernel
theorem dX8_fewest_1 : decode cX8_fewest 1 = .ok (.invokevirtual 185, 3) := by decide +kernel
theorem dX8_fewest_4 : decode cX8_fewest 4 = .ok (.iconst 0, 1) := by decide +kernel
theorem dX8_fewest_5 : decode cX8_fewest 5 = .ok (.istore_n 1, 1) := by decide +kernel
theorem dX8_fewest_6 : decode cX8_fewest 6 = .ok (.iconst 0, 1) := by decide +kernel
theorem dX8_fewest_7 : decode cX8_fewest 7 = .ok (.istore_n 2, 1) := by decide +kernel
theorem dX8_fewest_8 : decode cX8_fewest 8 = .ok (.iload_n 2, 1) := by decide +kernel
theorem dX8_fewest_9 : decode cX8_fewest 9 = .ok (.aload_n 0, 1) := by decide +kernel
theorem dX8_fewest_10 : decode cX8_fewest 10 = .ok (.getfield 68, 3) := by decide +kernel
theorem dX8_fewest_13 : decode cX8_fewest 13 = .ok (.if_icmp .ge 72, 3) := by decide +kernel
theorem dX8_fewest_16 : decode cX8_fewest 16 = .ok (.aload_n 0, 1) := by decide +kernel
theorem dX8_fewest_17 : decode cX8_fewest 17 = .ok (.iload_n 2, 1) := by decide +kernel
theorem dX8_fewest_18 : decode cX8_fewest 18 = .ok (.invokevirtual 218, 3) := by decide +kernel
theorem dX8_fewest_21 : decode cX8_fewest 21 = .ok (.ifCond .ne 58, 3) := by decide +kernel
theorem dX8_fewest_24 : decode cX8_fewest 24 = .ok (.aload_n 0, 1) := by decide +kernel
theorem dX8_fewest_25 : decode cX8_fewest 25 = .ok (.getfield 37, 3) := by decide +kernel
theorem dX8_fewest_28 : decode cX8_fewest 28 = .ok (.iconst 0, 1) := by decide +kernel
theorem dX8_fewest_29 : decode cX8_fewest 29 = .ok (.aaload, 1) := by decide +kernel
theorem dX8_fewest_30 : decode cX8_fewest 30 = .ok (.aload_n 0, 1) := by decide +kernel
theorem dX8_fewest_31 : decode cX8_fewest 31 = .ok (.getfield 31, 3) := by decide +kernel
theorem dX8_fewest_34 : decode cX8_fewest 34 = .ok (.iload_n 2, 1) := by decide +kernel
theorem dX8_fewest_35 : decode cX8_fewest 35 = .ok (.aaload, 1) := by decide +kernel
theorem dX8_fewest_36 : decode cX8_fewest 36 = .ok (.iconst 2, 1) := by decide +kernel
theorem dX8_fewest_37 : decode cX8_fewest 37 = .ok (.iaload, 1) := by decide +kernel
theorem dX8_fewest_38 : decode cX8_fewest 38 = .ok (.iaload, 1) := by decide +kernel
theorem dX8_fewest_39 : decode cX8_fewest 39 = .ok (.aload_n 0, 1) := by decide +kernel
theorem dX8_fewest_40 : decode cX8_fewest 40 = .ok (.getfield 37, 3) := by decide +kernel
theorem dX8_fewest_43 : decode cX8_fewest 43 = .ok (.aload_n 0, 1) := by decide +kernel
theorem dX8_fewest_44 : decode cX8_fewest 44 = .ok (.getfield 31, 3) := by decide +kernel
theorem dX8_fewest_47 : decode cX8_fewest 47 = .ok (.iload_n 2, 1) := by decide +kernel
theorem dX8_fewest_48 : decode cX8_fewest 48 = .ok (.aaload, 1) := by decide +kernel
theorem dX8_fewest_49 : decode cX8_fewest 49 = .ok (.iconst 2, 1) := by decide +kernel
theorem dX8_fewest_50 : decode cX8_fewest 50 = .ok (.iaload, 1) := by decide +kernel
theorem dX8_fewest_51 : decode cX8_fewest 51 = .ok (.aaload, 1) := by decide +kernel
theorem dX8_fewest_52 : decode cX8_fewest 52 = .ok (.aload_n 0, 1) := by decide +kernel
theorem dX8_fewest_53 : decode cX8_fewest 53 = .ok (.getfield 31, 3) := by decide +kernel
theorem dX8_fewest_56 : decode cX8_fewest 56 = .ok (.iload_n 2, 1) := by decide +kernel
theorem dX8_fewest_57 : decode cX8_fewest 57 = .ok (.aaload, 1) := by decide +kernel
theorem dX8_fewest_58 : decode cX8_fewest 58 = .ok (.iconst 3, 1) := by decide +kernel
theorem dX8_fewest_59 : decode cX8_fewest 59 = .ok (.iaload, 1) := by decide +kernel
theorem dX8_fewest_60 : decode cX8_fewest 60 = .ok (.iaload, 1) := by decide +kernel
theorem dX8_fewest_61 : decode cX8_fewest 61 = .ok (.iadd, 1) := by decide +kernel
theorem dX8_fewest_62 : decode cX8_fewest 62 = .ok (.aload_n 0, 1) := by decide +kernel
theorem dX8_fewest_63 : decode cX8_fewest 63 = .ok (.getfield 31, 3) := by decide +kernel
theorem dX8_fewest_66 : decode cX8_fewest 66 = .ok (.iload_n 2, 1) := by decide +kernel
theorem dX8_fewest_67 : decode cX8_fewest 67 = .ok (.aaload, 1) := by decide +kernel
theorem dX8_fewest_68 : decode cX8_fewest 68 = .ok (.iconst 5, 1) := by decide +kernel
theorem dX8_fewest_69 : decode cX8_fewest 69 = .ok (.iaload, 1) := by decide +kernel
theorem dX8_fewest_70 : decode cX8_fewest 70 = .ok (.if_icmp .le 6, 3) := by decide +kernel
theorem dX8_fewest_73 : decode cX8_fewest 73 = .ok (.bipush (-9), 2) := by decide +kernel
theorem dX8_fewest_75 : decode cX8_fewest 75 = .ok (.ireturn, 1) := by decide +kernel
theorem dX8_fewest_76 : decode cX8_fewest 76 = .ok (.iinc 1 1, 3) := by decide +kernel
theorem dX8_fewest_79 : decode cX8_fewest 79 = .ok (.iinc 2 1, 3) := by decide +kernel
theorem dX8_fewest_82 : decode cX8_fewest 82 = .ok (.goto (-74), 3) := by decide +kernel
theorem dX8_fewest_85 : decode cX8_fewest 85 = .ok (.iload_n 1, 1) := by decide +kernel
theorem dX8_fewest_86 : decode cX8_fewest 86 = .ok (.ireturn, 1) := by decide +kernel
theorem dX8_sumBy_0 : decode cX8_sumBy 0 = .ok (.aload_n 0, 1) := by decide +kernel
theorem dX8_sumBy_1 : decode cX8_sumBy 1 = .ok (.invokevirtual 185, 3) := by decide +kernel
theorem dX8_sumBy_4 : decode cX8_sumBy 4 = .ok (.iconst 0, 1) := by decide +kernel
theorem dX8_sumBy_5 : decode cX8_sumBy 5 = .ok (.istore_n 2, 1) := by decide +kernel
theorem dX8_sumBy_6 : decode cX8_sumBy 6 = .ok (.iconst 0, 1) := by decide +kernel
theorem dX8_sumBy_7 : decode cX8_sumBy 7 = .ok (.istore_n 3, 1) := by decide +kernel
theorem dX8_sumBy_8 : decode cX8_sumBy 8 = .ok (.iload_n 3, 1) := by decide +kernel
theorem dX8_sumBy_9 : decode cX8_sumBy 9 = .ok (.aload_n 0, 1) := by decide +kernel
theorem dX8_sumBy_10 : decode cX8_sumBy 10 = .ok (.getfield 68, 3) := by decide +kernel
theorem dX8_sumBy_13 : decode cX8_sumBy 13 = .ok (.if_icmp .ge 37, 3) := by decide +kernel
theorem dX8_sumBy_16 : decode cX8_sumBy 16 = .ok (.aload_n 0, 1) := by decide +kernel
theorem dX8_sumBy_17 : decode cX8_sumBy 17 = .ok (.iload_n 1, 1) := by decide +kernel
theorem dX8_sumBy_18 : decode cX8_sumBy 18 = .ok (.iload_n 3, 1) := by decide +kernel
theorem dX8_sumBy_19 : decode cX8_sumBy 19 = .ok (.bipush (-9), 2) := by decide +kernel
theorem dX8_sumBy_21 : decode cX8_sumBy 21 = .ok (.invokevirtual 188, 3) := by decide +kernel
theorem dX8_sumBy_24 : decode cX8_sumBy 24 = .ok (.istore 4, 2) := by decide +kernel
theorem dX8_sumBy_26 : decode cX8_sumBy 26 = .ok (.iload_n 2, 1) := by decide +kernel
theorem dX8_sumBy_27 : decode cX8_sumBy 27 = .ok (.iload 4, 2) := by decide +kernel
theorem dX8_sumBy_29 : decode cX8_sumBy 29 = .ok (.bipush (-9), 2) := by decide +kernel
theorem dX8_sumBy_31 : decode cX8_sumBy 31 = .ok (.if_icmp .ne 9, 3) := by decide +kernel
theorem dX8_sumBy_34 : decode cX8_sumBy 34 = .ok (.sipush 999, 3) := by decide +kernel
theorem dX8_sumBy_37 : decode cX8_sumBy 37 = .ok (.goto 5, 3) := by decide +kernel
theorem dX8_sumBy_40 : decode cX8_sumBy 40 = .ok (.iload 4, 2) := by decide +kernel
theorem dX8_sumBy_42 : decode cX8_sumBy 42 = .ok (.iadd, 1) := by decide +kernel
theorem dX8_sumBy_43 : decode cX8_sumBy 43 = .ok (.istore_n 2, 1) := by decide +kernel
theorem dX8_sumBy_44 : decode cX8_sumBy 44 = .ok (.iinc 3 1, 3) := by decide +kernel
theorem dX8_sumBy_47 : decode cX8_sumBy 47 = .ok (.goto (-39), 3) := by decide +kernel
theorem dX8_sumBy_50 : decode cX8_sumBy 50 = .ok (.iload_n 2, 1) := by decide +kernel
theorem dX8_sumBy_51 : decode cX8_sumBy 51 = .ok (.ireturn, 1) := by decide +kernel
theorem dX8_beside_0 : decode cX8_beside 0 = .ok (.aload_n 0, 1) := by decide +kernel
theorem dX8_beside_1 : decode cX8_beside 1 = .ok (.aload_n 0, 1) := by decide +kernel
theorem dX8_beside_2 : decode cX8_beside 2 = .ok (.getfield 148, 3) := by decide +kernel
theorem dX8_beside_5 : decode cX8_beside 5 = .ok (.invokevirtual 221, 3) := by decide +kernel
theorem dX8_beside_8 : decode cX8_beside 8 = .ok (.aload_n 0, 1) := by decide +kernel
theorem dX8_beside_9 : decode cX8_beside 9 = .ok (.iconst 3, 1) := by decide +kernel
theorem dX8_beside_10 : decode cX8_beside 10 = .ok (.invokevirtual 221, 3) := by decide +kernel
theorem dX8_beside_13 : decode cX8_beside 13 = .ok (.isub, 1) := by decide +kernel
theorem dX8_beside_14 : decode cX8_beside 14 = .ok (.ireturn, 1) := by decide +kernel
theorem dX8_change_0 : decode cX8_change 0 = .ok (.iconst 0, 1) := by decide +kernel
theorem dX8_change_1 : decode cX8_change 1 = .ok (.istore_n 3, 1) := by decide +kernel
theorem dX8_change_2 : decode cX8_change 2 = .ok (.iload_n 3, 1) := by decide +kernel
theorem dX8_change_3 : decode cX8_change 3 = .ok (.iconst 2, 1) := by decide +kernel
theorem dX8_change_4 : decode cX8_change 4 = .ok (.if_icmp .ge 45, 3) := by decide +kernel
theorem dX8_change_7 : decode cX8_change 7 = .ok (.aload_n 0, 1) := by decide +kernel
theorem dX8_change_8 : decode cX8_change 8 = .ok (.getfield 28, 3) := by decide +kernel
theorem dX8_change_11 : decode cX8_change 11 = .ok (.iload_n 1, 1) := by decide +kernel
theorem dX8_change_12 : decode cX8_change 12 = .ok (.aaload, 1) := by decide +kernel
theorem dX8_change_13 : decode cX8_change 13 = .ok (.iload_n 3, 1) := by decide +kernel
theorem dX8_change_14 : decode cX8_change 14 = .ok (.iaload, 1) := by decide +kernel
theorem dX8_change_15 : decode cX8_change 15 = .ok (.istore 4, 2) := by decide +kernel
theorem dX8_change_17 : decode cX8_change 17 = .ok (.aload_n 0, 1) := by decide +kernel
theorem dX8_change_18 : decode cX8_change 18 = .ok (.getfield 28, 3) := by decide +kernel
theorem dX8_change_21 : decode cX8_change 21 = .ok (.iload_n 1, 1) := by decide +kernel
theorem dX8_change_22 : decode cX8_change 22 = .ok (.aaload, 1) := by decide +kernel
theorem dX8_change_23 : decode cX8_change 23 = .ok (.iload_n 3, 1) := by decide +kernel
theorem dX8_change_24 : decode cX8_change 24 = .ok (.aload_n 0, 1) := by decide +kernel
theorem dX8_change_25 : decode cX8_change 25 = .ok (.getfield 28, 3) := by decide +kernel
theorem dX8_change_28 : decode cX8_change 28 = .ok (.iload_n 2, 1) := by decide +kernel
theorem dX8_change_29 : decode cX8_change 29 = .ok (.aaload, 1) := by decide +kernel
theorem dX8_change_30 : decode cX8_change 30 = .ok (.iload_n 3, 1) := by decide +kernel
theorem dX8_change_31 : decode cX8_change 31 = .ok (.iaload, 1) := by decide +kernel
theorem dX8_change_32 : decode cX8_change 32 = .ok (.iastore, 1) := by decide +kernel
theorem dX8_change_33 : decode cX8_change 33 = .ok (.aload_n 0, 1) := by decide +kernel
theorem dX8_change_34 : decode cX8_change 34 = .ok (.getfield 28, 3) := by decide +kernel
theorem dX8_change_37 : decode cX8_change 37 = .ok (.iload_n 2, 1) := by decide +kernel
theorem dX8_change_38 : decode cX8_change 38 = .ok (.aaload, 1) := by decide +kernel
theorem dX8_change_39 : decode cX8_change 39 = .ok (.iload_n 3, 1) := by decide +kernel
theorem dX8_change_40 : decode cX8_change 40 = .ok (.iload 4, 2) := by decide +kernel
theorem dX8_change_42 : decode cX8_change 42 = .ok (.iastore, 1) := by decide +kernel
theorem dX8_change_43 : decode cX8_change 43 = .ok (.iinc 3 1, 3) := by decide +kernel
theorem dX8_change_46 : decode cX8_change 46 = .ok (.goto (-44), 3) := by decide +kernel
theorem dX8_change_49 : decode cX8_change 49 = .ok (.return_, 1) := by decide +kernel
theorem dX8_houses_0 : decode cX8_houses 0 = .ok (.aload_n 0, 1) := by decide +kernel
theorem dX8_houses_1 : decode cX8_houses 1 = .ok (.aload_n 0, 1) := by decide +kernel
theorem dX8_houses_2 : decode cX8_houses 2 = .ok (.getfield 148, 3) := by decide +kernel
theorem dX8_houses_5 : decode cX8_houses 5 = .ok (.invokevirtual 221, 3) := by decide +kernel
theorem dX8_houses_8 : decode cX8_houses 8 = .ok (.istore_n 1, 1) := by decide +kernel
theorem dX8_houses_9 : decode cX8_houses 9 = .ok (.bipush (-9), 2) := by decide +kernel
theorem dX8_houses_11 : decode cX8_houses 11 = .ok (.istore_n 2, 1) := by decide +kernel
theorem dX8_houses_12 : decode cX8_houses 12 = .ok (.iconst 0, 1) := by decide +kernel
theorem dX8_houses_13 : decode cX8_houses 13 = .ok (.istore_n 3, 1) := by decide +kernel
theorem dX8_houses_14 : decode cX8_houses 14 = .ok (.iload_n 3, 1) := by decide +kernel
theorem dX8_houses_15 : decode cX8_houses 15 = .ok (.aload_n 0, 1) := by decide +kernel
theorem dX8_houses_16 : decode cX8_houses 16 = .ok (.getfield 65, 3) := by decide +kernel
theorem dX8_houses_19 : decode cX8_houses 19 = .ok (.if_icmp .ge 70, 3) := by decide +kernel
theorem dX8_houses_22 : decode cX8_houses 22 = .ok (.iload_n 3, 1) := by decide +kernel
theorem dX8_houses_23 : decode cX8_houses 23 = .ok (.iconst 1, 1) := by decide +kernel
theorem dX8_houses_24 : decode cX8_houses 24 = .ok (.iadd, 1) := by decide +kernel
theorem dX8_houses_25 : decode cX8_houses 25 = .ok (.istore 4, 2) := by decide +kernel
theorem dX8_houses_27 : decode cX8_houses 27 = .ok (.iload 4, 2) := by decide +kernel
theorem dX8_houses_29 : decode cX8_houses 29 = .ok (.aload_n 0, 1) := by decide +kernel
theorem dX8_houses_30 : decode cX8_houses 30 = .ok (.getfield 65, 3) := by decide +kernel
theorem dX8_houses_33 : decode cX8_houses 33 = .ok (.if_icmp .ge 50, 3) := by decide +kernel
theorem dX8_houses_36 : decode cX8_houses 36 = .ok (.aload_n 0, 1) := by decide +kernel
theorem dX8_houses_37 : decode cX8_houses 37 = .ok (.iload_n 3, 1) := by decide +kernel
theorem dX8_houses_38 : decode cX8_houses 38 = .ok (.iload 4, 2) := by decide +kernel
theorem dX8_houses_40 : decode cX8_houses 40 = .ok (.invokevirtual 224, 3) := by decide +kernel
theorem dX8_houses_43 : decode cX8_houses 43 = .ok (.aload_n 0, 1) := by decide +kernel
theorem dX8_houses_44 : decode cX8_houses 44 = .ok (.aload_n 0, 1) := by decide +kernel
theorem dX8_houses_45 : decode cX8_houses 45 = .ok (.getfield 148, 3) := by decide +kernel
theorem dX8_houses_48 : decode cX8_houses 48 = .ok (.invokevirtual 221, 3) := by decide +kernel
theorem dX8_houses_51 : decode cX8_houses 51 = .ok (.istore 5, 2) := by decide +kernel
theorem dX8_houses_53 : decode cX8_houses 53 = .ok (.aload_n 0, 1) := by decide +kernel
theorem dX8_houses_54 : decode cX8_houses 54 = .ok (.iload_n 3, 1) := by decide +kernel
theorem dX8_houses_55 : decode cX8_houses 55 = .ok (.iload 4, 2) := by decide +kernel
theorem dX8_houses_57 : decode cX8_houses 57 = .ok (.invokevirtual 224, 3) := by decide +kernel
theorem dX8_houses_60 : decode cX8_houses 60 = .ok (.iload 5, 2) := by decide +kernel
theorem dX8_houses_62 : decode cX8_houses 62 = .ok (.iload_n 1, 1) := by decide +kernel
theorem dX8_houses_63 : decode cX8_houses 63 = .ok (.if_icmp .ge 14, 3) := by decide +kernel
theorem dX8_houses_66 : decode cX8_houses 66 = .ok (.iload 5, 2) := by decide +kernel
theorem dX8_houses_68 : decode cX8_houses 68 = .ok (.istore_n 1, 1) := by decide +kernel
theorem dX8_houses_69 : decode cX8_houses 69 = .ok (.bipush 10, 2) := by decide +kernel
theorem dX8_houses_71 : decode cX8_houses 71 = .ok (.iload_n 3, 1) := by decide +kernel
theorem dX8_houses_72 : decode cX8_houses 72 = .ok (.imul, 1) := by decide +kernel
theorem dX8_houses_73 : decode cX8_houses 73 = .ok (.iload 4, 2) := by decide +kernel
theorem dX8_houses_75 : decode cX8_houses 75 = .ok (.iadd, 1) := by decide +kernel
theorem dX8_houses_76 : decode cX8_houses 76 = .ok (.istore_n 2, 1) := by decide +kernel
theorem dX8_houses_77 : decode cX8_houses 77 = .ok (.iinc 4 1, 3) := by decide +kernel
theorem dX8_houses_80 : decode cX8_houses 80 = .ok (.goto (-53), 3) := by decide +kernel
theorem dX8_houses_83 : decode cX8_houses 83 = .ok (.iinc 3 1, 3) := by decide +kernel
theorem dX8_houses_86 : decode cX8_houses 86 = .ok (.goto (-72), 3) := by decide +kernel
theorem dX8_houses_89 : decode cX8_houses 89 = .ok (.iload_n 2, 1) := by decide +kernel
theorem dX8_houses_90 : decode cX8_houses 90 = .ok (.ireturn, 1) := by decide +kernel
theorem dX8_draw_0 : decode cX8_draw 0 = .ok (.aload_n 0, 1) := by decide +kernel
theorem dX8_draw_1 : decode cX8_draw 1 = .ok (.aload_n 0, 1) := by decide +kernel
theorem dX8_draw_2 : decode cX8_draw 2 = .ok (.getfield 228, 3) := by decide +kernel
theorem dX8_draw_5 : decode cX8_draw 5 = .ok (.ldc 231, 2) := by decide +kernel
theorem dX8_draw_7 : decode cX8_draw 7 = .ok (.imul, 1) := by decide +kernel
theorem dX8_draw_8 : decode cX8_draw 8 = .ok (.ldc 232, 2) := by decide +kernel
theorem dX8_draw_10 : decode cX8_draw 10 = .ok (.iadd, 1) := by decide +kernel
theorem dX8_draw_11 : decode cX8_draw 11 = .ok (.putfield 228, 3) := by decide +kernel
theorem dX8_draw_14 : decode cX8_draw 14 = .ok (.aload_n 0, 1) := by decide +kernel
theorem dX8_draw_15 : decode cX8_draw 15 = .ok (.getfield 228, 3) := by decide +kernel
theorem dX8_draw_18 : decode cX8_draw 18 = .ok (.ldc 233, 2) := by decide +kernel
theorem dX8_draw_20 : decode cX8_draw 20 = .ok (.iand, 1) := by decide +kernel
theorem dX8_draw_21 : decode cX8_draw 21 = .ok (.sipush 256, 3) := by decide +kernel
theorem dX8_draw_24 : decode cX8_draw 24 = .ok (.idiv, 1) := by decide +kernel
theorem dX8_draw_25 : decode cX8_draw 25 = .ok (.iload_n 1, 1) := by decide +kernel
theorem dX8_draw_26 : decode cX8_draw 26 = .ok (.irem, 1) := by decide +kernel
theorem dX8_draw_27 : decode cX8_draw 27 = .ok (.ireturn, 1) := by decide +kernel
theorem dX8_days_0 : decode cX8_days 0 = .ok (.iload_n 1, 1) := by decide +kernel
theorem dX8_days_1 : decode cX8_days 1 = .ok (.iconst 1, 1) := by decide +kernel
theorem dX8_days_2 : decode cX8_days 2 = .ok (.if_icmp .ge 10, 3) := by decide +kernel
theorem dX8_days_5 : decode cX8_days 5 = .ok (.aload_n 0, 1) := by decide +kernel
theorem dX8_days_6 : decode cX8_days 6 = .ok (.bipush (-4), 2) := by decide +kernel
theorem dX8_days_8 : decode cX8_days 8 = .ok (.invokevirtual 71, 3) := by decide +kernel
theorem dX8_days_11 : decode cX8_days 11 = .ok (.ireturn, 1) := by decide +kernel
theorem dX8_days_12 : decode cX8_days 12 = .ok (.iload_n 1, 1) := by decide +kernel
theorem dX8_days_13 : decode cX8_days 13 = .ok (.bipush 14, 2) := by decide +kernel
theorem dX8_days_15 : decode cX8_days 15 = .ok (.if_icmp .le 10, 3) := by decide +kernel
theorem dX8_days_18 : decode cX8_days 18 = .ok (.aload_n 0, 1) := by decide +kernel
theorem dX8_days_19 : decode cX8_days 19 = .ok (.bipush (-6), 2) := by decide +kernel
theorem dX8_days_21 : decode cX8_days 21 = .ok (.invokevirtual 71, 3) := by decide +kernel
theorem dX8_days_24 : decode cX8_days 24 = .ok (.ireturn, 1) := by decide +kernel
theorem dX8_days_25 : decode cX8_days 25 = .ok (.aload_n 0, 1) := by decide +kernel
theorem dX8_days_26 : decode cX8_days 26 = .ok (.getfield 234, 3) := by decide +kernel
theorem dX8_days_29 : decode cX8_days 29 = .ok (.ifnonnull 14, 3) := by decide +kernel
theorem dX8_days_32 : decode cX8_days 32 = .ok (.aload_n 0, 1) := by decide +kernel
theorem dX8_days_33 : decode cX8_days 33 = .ok (.new 7, 3) := by decide +kernel
theorem dX8_days_36 : decode cX8_days 36 = .ok (.dup, 1) := by decide +kernel
theorem dX8_days_37 : decode cX8_days 37 = .ok (.invokespecial 130, 3) := by decide +kernel
theorem dX8_days_40 : decode cX8_days 40 = .ok (.putfield 234, 3) := by decide +kernel
theorem dX8_days_43 : decode cX8_days 43 = .ok (.aload_n 0, 1) := by decide +kernel
theorem dX8_days_44 : decode cX8_days 44 = .ok (.getfield 234, 3) := by decide +kernel
theorem dX8_days_47 : decode cX8_days 47 = .ok (.aload_n 0, 1) := by decide +kernel
theorem dX8_days_48 : decode cX8_days 48 = .ok (.invokevirtual 131, 3) := by decide +kernel
theorem dX8_days_51 : decode cX8_days 51 = .ok (.aload_n 0, 1) := by decide +kernel
theorem dX8_days_52 : decode cX8_days 52 = .ok (.iload_n 2, 1) := by decide +kernel
theorem dX8_days_53 : decode cX8_days 53 = .ok (.putfield 228, 3) := by decide +kernel
theorem dX8_days_56 : decode cX8_days 56 = .ok (.iconst 0, 1) := by decide +kernel
theorem dX8_days_57 : decode cX8_days 57 = .ok (.istore_n 3, 1) := by decide +kernel
theorem dX8_days_58 : decode cX8_days 58 = .ok (.iconst 0, 1) := by decide +kernel
theorem dX8_days_59 : decode cX8_days 59 = .ok (.istore 4, 2) := by decide +kernel
theorem dX8_days_61 : decode cX8_days 61 = .ok (.iload 4, 2) := by decide +kernel
theorem dX8_days_63 : decode cX8_days 63 = .ok (.iload_n 1, 1) := by decide +kernel
theorem dX8_days_64 : decode cX8_days 64 = .ok (.if_icmp .ge 91, 3) := by decide +kernel
theorem dX8_days_67 : decode cX8_days 67 = .ok (.iconst 0, 1) := by decide +kernel
theorem dX8_days_68 : decode cX8_days 68 = .ok (.istore 5, 2) := by decide +kernel
theorem dX8_days_70 : decode cX8_days 70 = .ok (.iload 5, 2) := by decide +kernel
theorem dX8_days_72 : decode cX8_days 72 = .ok (.aload_n 0, 1) := by decide +kernel
theorem dX8_days_73 : decode cX8_days 73 = .ok (.getfield 65, 3) := by decide +kernel
theorem dX8_days_76 : decode cX8_days 76 = .ok (.if_icmp .ge 28, 3) := by decide +kernel
theorem dX8_days_79 : decode cX8_days 79 = .ok (.aload_n 0, 1) := by decide +kernel
theorem dX8_days_80 : decode cX8_days 80 = .ok (.getfield 234, 3) := by decide +kernel
theorem dX8_days_83 : decode cX8_days 83 = .ok (.getfield 28, 3) := by decide +kernel
theorem dX8_days_86 : decode cX8_days 86 = .ok (.iload 5, 2) := by decide +kernel
theorem dX8_days_88 : decode cX8_days 88 = .ok (.aaload, 1) := by decide +kernel
theorem dX8_days_89 : decode cX8_days 89 = .ok (.iconst 2, 1) := by decide +kernel
theorem dX8_days_90 : decode cX8_days 90 = .ok (.aload_n 0, 1) := by decide +kernel
theorem dX8_days_91 : decode cX8_days 91 = .ok (.sipush 721, 3) := by decide +kernel
theorem dX8_days_94 : decode cX8_days 94 = .ok (.invokevirtual 237, 3) := by decide +kernel
theorem dX8_days_97 : decode cX8_days 97 = .ok (.iastore, 1) := by decide +kernel
theorem dX8_days_98 : decode cX8_days 98 = .ok (.iinc 5 1, 3) := by decide +kernel
theorem dX8_days_101 : decode cX8_days 101 = .ok (.goto (-31), 3) := by decide +kernel
theorem dX8_days_104 : decode cX8_days 104 = .ok (.aload_n 0, 1) := by decide +kernel
theorem dX8_days_105 : decode cX8_days 105 = .ok (.getfield 234, 3) := by decide +kernel
theorem dX8_days_108 : decode cX8_days 108 = .ok (.invokevirtual 185, 3) := by decide +kernel
theorem dX8_days_111 : decode cX8_days 111 = .ok (.iconst 0, 1) := by decide +kernel
theorem dX8_days_112 : decode cX8_days 112 = .ok (.istore 5, 2) := by decide +kernel
theorem dX8_days_114 : decode cX8_days 114 = .ok (.iload 5, 2) := by decide +kernel
theorem dX8_days_116 : decode cX8_days 116 = .ok (.aload_n 0, 1) := by decide +kernel
theorem dX8_days_117 : decode cX8_days 117 = .ok (.getfield 68, 3) := by decide +kernel
theorem dX8_days_120 : decode cX8_days 120 = .ok (.if_icmp .ge 29, 3) := by decide +kernel
theorem dX8_days_123 : decode cX8_days 123 = .ok (.iload_n 3, 1) := by decide +kernel
theorem dX8_days_124 : decode cX8_days 124 = .ok (.aload_n 0, 1) := by decide +kernel
theorem dX8_days_125 : decode cX8_days 125 = .ok (.getfield 234, 3) := by decide +kernel
theorem dX8_days_128 : decode cX8_days 128 = .ok (.iload 5, 2) := by decide +kernel
theorem dX8_days_130 : decode cX8_days 130 = .ok (.invokevirtual 218, 3) := by decide +kernel
theorem dX8_days_133 : decode cX8_days 133 = .ok (.ifCond .eq 7, 3) := by decide +kernel
theorem dX8_days_136 : decode cX8_days 136 = .ok (.iconst 1, 1) := by decide +kernel
theorem dX8_days_137 : decode cX8_days 137 = .ok (.goto 4, 3) := by decide +kernel
theorem dX8_days_140 : decode cX8_days 140 = .ok (.iconst 0, 1) := by decide +kernel
theorem dX8_days_141 : decode cX8_days 141 = .ok (.iadd, 1) := by decide +kernel
theorem dX8_days_142 : decode cX8_days 142 = .ok (.istore_n 3, 1) := by decide +kernel
theorem dX8_days_143 : decode cX8_days 143 = .ok (.iinc 5 1, 3) := by decide +kernel
theorem dX8_days_146 : decode cX8_days 146 = .ok (.goto (-32), 3) := by decide +kernel
theorem dX8_days_149 : decode cX8_days 149 = .ok (.iinc 4 1, 3) := by decide +kernel
theorem dX8_days_152 : decode cX8_days 152 = .ok (.goto (-91), 3) := by decide +kernel
theorem dX8_days_155 : decode cX8_days 155 = .ok (.iload_n 3, 1) := by decide +kernel
theorem dX8_days_156 : decode cX8_days 156 = .ok (.ireturn, 1) := by decide +kernel
theorem dX8_row_0 : decode cX8_row 0 = .ok (.iload_n 1, 1) := by decide +kernel
theorem dX8_row_1 : decode cX8_row 1 = .ok (.ifCond .ge 10, 3) := by decide +kernel
theorem dX8_row_4 : decode cX8_row 4 = .ok (.aload_n 0, 1) := by decide +kernel
theorem dX8_row_5 : decode cX8_row 5 = .ok (.bipush (-4), 2) := by decide +kernel
theorem dX8_row_7 : decode cX8_row 7 = .ok (.invokevirtual 71, 3) := by decide +kernel
theorem dX8_row_10 : decode cX8_row 10 = .ok (.ireturn, 1) := by decide +kernel
theorem dX8_row_11 : decode cX8_row 11 = .ok (.iload_n 1, 1) := by decide +kernel
theorem dX8_row_12 : decode cX8_row 12 = .ok (.bipush 9, 2) := by decide +kernel
theorem dX8_row_14 : decode cX8_row 14 = .ok (.if_icmp .gt 12, 3) := by decide +kernel
theorem dX8_row_17 : decode cX8_row 17 = .ok (.aload_n 0, 1) := by decide +kernel
theorem dX8_row_18 : decode cX8_row 18 = .ok (.getfield 240, 3) := by decide +kernel
theorem dX8_row_21 : decode cX8_row 21 = .ok (.bipush 6, 2) := by decide +kernel
theorem dX8_row_23 : decode cX8_row 23 = .ok (.if_icmp .ne 10, 3) := by decide +kernel
theorem dX8_row_26 : decode cX8_row 26 = .ok (.aload_n 0, 1) := by decide +kernel
theorem dX8_row_27 : decode cX8_row 27 = .ok (.bipush (-6), 2) := by decide +kernel
theorem dX8_row_29 : decode cX8_row 29 = .ok (.invokevirtual 71, 3) := by decide +kernel
theorem dX8_row_32 : decode cX8_row 32 = .ok (.ireturn, 1) := by decide +kernel
theorem dX8_row_33 : decode cX8_row 33 = .ok (.aload_n 0, 1) := by decide +kernel
theorem dX8_row_34 : decode cX8_row 34 = .ok (.getfield 13, 3) := by decide +kernel
theorem dX8_row_37 : decode cX8_row 37 = .ok (.aload_n 0, 1) := by decide +kernel
theorem dX8_row_38 : decode cX8_row 38 = .ok (.dup, 1) := by decide +kernel
theorem dX8_row_39 : decode cX8_row 39 = .ok (.getfield 240, 3) := by decide +kernel
theorem dX8_row_42 : decode cX8_row 42 = .ok (.dup_x1, 1) := by decide +kernel
theorem dX8_row_43 : decode cX8_row 43 = .ok (.iconst 1, 1) := by decide +kernel
theorem dX8_row_44 : decode cX8_row 44 = .ok (.iadd, 1) := by decide +kernel
theorem dX8_row_45 : decode cX8_row 45 = .ok (.putfield 240, 3) := by decide +kernel
theorem dX8_row_48 : decode cX8_row 48 = .ok (.iload_n 1, 1) := by decide +kernel
theorem dX8_row_49 : decode cX8_row 49 = .ok (.iastore, 1) := by decide +kernel
theorem dX8_row_50 : decode cX8_row 50 = .ok (.aload_n 0, 1) := by decide +kernel
theorem dX8_row_51 : decode cX8_row 51 = .ok (.getfield 240, 3) := by decide +kernel
theorem dX8_row_54 : decode cX8_row 54 = .ok (.ireturn, 1) := by decide +kernel
theorem dX8_judged_0 : decode cX8_judged 0 = .ok (.aload_n 0, 1) := by decide +kernel
theorem dX8_judged_1 : decode cX8_judged 1 = .ok (.invokevirtual 139, 3) := by decide +kernel
theorem dX8_judged_4 : decode cX8_judged 4 = .ok (.iconst 0, 1) := by decide +kernel
theorem dX8_judged_5 : decode cX8_judged 5 = .ok (.istore_n 1, 1) := by decide +kernel
theorem dX8_judged_6 : decode cX8_judged 6 = .ok (.iconst 0, 1) := by decide +kernel
theorem dX8_judged_7 : decode cX8_judged 7 = .ok (.istore_n 2, 1) := by decide +kernel
theorem dX8_judged_8 : decode cX8_judged 8 = .ok (.iload_n 2, 1) := by decide +kernel
theorem dX8_judged_9 : decode cX8_judged 9 = .ok (.aload_n 0, 1) := by decide +kernel
theorem dX8_judged_10 : decode cX8_judged 10 = .ok (.getfield 68, 3) := by decide +kernel
theorem dX8_judged_13 : decode cX8_judged 13 = .ok (.if_icmp .ge 67, 3) := by decide +kernel
theorem dX8_judged_16 : decode cX8_judged 16 = .ok (.iload_n 2, 1) := by decide +kernel
theorem dX8_judged_17 : decode cX8_judged 17 = .ok (.aload_n 0, 1) := by decide +kernel
theorem dX8_judged_18 : decode cX8_judged 18 = .ok (.getfield 240, 3) := by decide +kernel
theorem dX8_judged_21 : decode cX8_judged 21 = .ok (.if_icmp .ne 5, 3) := by decide +kernel
theorem dX8_judged_24 : decode cX8_judged 24 = .ok (.iload_n 2, 1) := by decide +kernel
theorem dX8_judged_25 : decode cX8_judged 25 = .ok (.ireturn, 1) := by decide +kernel
theorem dX8_judged_26 : decode cX8_judged 26 = .ok (.aload_n 0, 1) := by decide +kernel
theorem dX8_judged_27 : decode cX8_judged 27 = .ok (.getfield 13, 3) := by decide +kernel
theorem dX8_judged_30 : decode cX8_judged 30 = .ok (.iload_n 2, 1) := by decide +kernel
theorem dX8_judged_31 : decode cX8_judged 31 = .ok (.iaload, 1) := by decide +kernel
theorem dX8_judged_32 : decode cX8_judged 32 = .ok (.istore_n 3, 1) := by decide +kernel
theorem dX8_judged_33 : decode cX8_judged 33 = .ok (.iload_n 3, 1) := by decide +kernel
theorem dX8_judged_34 : decode cX8_judged 34 = .ok (.bipush 9, 2) := by decide +kernel
theorem dX8_judged_36 : decode cX8_judged 36 = .ok (.if_icmp .eq 38, 3) := by decide +kernel
theorem dX8_judged_39 : decode cX8_judged 39 = .ok (.aload_n 0, 1) := by decide +kernel
theorem dX8_judged_40 : decode cX8_judged 40 = .ok (.iload_n 3, 1) := by decide +kernel
theorem dX8_judged_41 : decode cX8_judged 41 = .ok (.invokevirtual 108, 3) := by decide +kernel
theorem dX8_judged_44 : decode cX8_judged 44 = .ok (.ifCond .eq 22, 3) := by decide +kernel
theorem dX8_judged_47 : decode cX8_judged 47 = .ok (.iload_n 1, 1) := by decide +kernel
theorem dX8_judged_48 : decode cX8_judged 48 = .ok (.iload_n 3, 1) := by decide +kernel
theorem dX8_judged_49 : decode cX8_judged 49 = .ok (.ishr, 1) := by decide +kernel
theorem dX8_judged_50 : decode cX8_judged 50 = .ok (.iconst 1, 1) := by decide +kernel
theorem dX8_judged_51 : decode cX8_judged 51 = .ok (.iand, 1) := by decide +kernel
theorem dX8_judged_52 : decode cX8_judged 52 = .ok (.ifCond .ne 14, 3) := by decide +kernel
theorem dX8_judged_55 : decode cX8_judged 55 = .ok (.aload_n 0, 1) := by decide +kernel
theorem dX8_judged_56 : decode cX8_judged 56 = .ok (.iload_n 3, 1) := by decide +kernel
theorem dX8_judged_57 : decode cX8_judged 57 = .ok (.iload_n 2, 1) := by decide +kernel
theorem dX8_judged_58 : decode cX8_judged 58 = .ok (.invokevirtual 202, 3) := by decide +kernel
theorem dX8_judged_61 : decode cX8_judged 61 = .ok (.bipush (-9), 2) := by decide +kernel
theorem dX8_judged_63 : decode cX8_judged 63 = .ok (.if_icmp .ne 5, 3) := by decide +kernel
theorem dX8_judged_66 : decode cX8_judged 66 = .ok (.iload_n 2, 1) := by decide +kernel
theorem dX8_judged_67 : decode cX8_judged 67 = .ok (.ireturn, 1) := by decide +kernel
theorem dX8_judged_68 : decode cX8_judged 68 = .ok (.iload_n 1, 1) := by decide +kernel
theorem dX8_judged_69 : decode cX8_judged 69 = .ok (.iconst 1, 1) := by decide +kernel
theorem dX8_judged_70 : decode cX8_judged 70 = .ok (.iload_n 3, 1) := by decide +kernel
theorem dX8_judged_71 : decode cX8_judged 71 = .ok (.ishl, 1) := by decide +kernel
theorem dX8_judged_72 : decode cX8_judged 72 = .ok (.ior, 1) := by decide +kernel
theorem dX8_judged_73 : decode cX8_judged 73 = .ok (.istore_n 1, 1) := by decide +kernel
theorem dX8_judged_74 : decode cX8_judged 74 = .ok (.iinc 2 1, 3) := by decide +kernel
theorem dX8_judged_77 : decode cX8_judged 77 = .ok (.goto (-69), 3) := by decide +kernel
theorem dX8_judged_80 : decode cX8_judged 80 = .ok (.aload_n 0, 1) := by decide +kernel
theorem dX8_judged_81 : decode cX8_judged 81 = .ok (.getfield 240, 3) := by decide +kernel
theorem dX8_judged_84 : decode cX8_judged 84 = .ok (.aload_n 0, 1) := by decide +kernel
theorem dX8_judged_85 : decode cX8_judged 85 = .ok (.getfield 68, 3) := by decide +kernel
theorem dX8_judged_88 : decode cX8_judged 88 = .ok (.if_icmp .le 10, 3) := by decide +kernel
theorem dX8_judged_91 : decode cX8_judged 91 = .ok (.aload_n 0, 1) := by decide +kernel
theorem dX8_judged_92 : decode cX8_judged 92 = .ok (.getfield 68, 3) := by decide +kernel
theorem dX8_judged_95 : decode cX8_judged 95 = .ok (.goto 5, 3) := by decide +kernel
theorem dX8_judged_98 : decode cX8_judged 98 = .ok (.bipush (-9), 2) := by decide +kernel
theorem dX8_judged_100 : decode cX8_judged 100 = .ok (.ireturn, 1) := by decide +kernel
theorem dX8_judge_0 : decode cX8_judge 0 = .ok (.aload_n 0, 1) := by decide +kernel
theorem dX8_judge_1 : decode cX8_judge 1 = .ok (.invokevirtual 243, 3) := by decide +kernel
theorem dX8_judge_4 : decode cX8_judge 4 = .ok (.istore_n 1, 1) := by decide +kernel
theorem dX8_judge_5 : decode cX8_judge 5 = .ok (.aload_n 0, 1) := by decide +kernel
theorem dX8_judge_6 : decode cX8_judge 6 = .ok (.iconst 0, 1) := by decide +kernel
theorem dX8_judge_7 : decode cX8_judge 7 = .ok (.putfield 240, 3) := by decide +kernel
theorem dX8_judge_10 : decode cX8_judge 10 = .ok (.iload_n 1, 1) := by decide +kernel
theorem dX8_judge_11 : decode cX8_judge 11 = .ok (.ireturn, 1) := by decide +kernel
theorem dX8_copyAll_0 : decode cX8_copyAll 0 = .ok (.iconst 0, 1) := by decide +kernel
theorem dX8_copyAll_1 : decode cX8_copyAll 1 = .ok (.istore_n 2, 1) := by decide +kernel
theorem dX8_copyAll_2 : decode cX8_copyAll 2 = .ok (.iload_n 2, 1) := by decide +kernel
theorem dX8_copyAll_3 : decode cX8_copyAll 3 = .ok (.aload_n 0, 1) := by decide +kernel
theorem dX8_copyAll_4 : decode cX8_copyAll 4 = .ok (.arraylength, 1) := by decide +kernel
theorem dX8_copyAll_5 : decode cX8_copyAll 5 = .ok (.if_icmp .ge 35, 3) := by decide +kernel
theorem dX8_copyAll_8 : decode cX8_copyAll 8 = .ok (.iconst 0, 1) := by decide +kernel
theorem dX8_copyAll_9 : decode cX8_copyAll 9 = .ok (.istore_n 3, 1) := by decide +kernel
theorem dX8_copyAll_10 : decode cX8_copyAll 10 = .ok (.iload_n 3, 1) := by decide +kernel
theorem dX8_copyAll_11 : decode cX8_copyAll 11 = .ok (.aload_n 0, 1) := by decide +kernel
theorem dX8_copyAll_12 : decode cX8_copyAll 12 = .ok (.iload_n 2, 1) := by decide +kernel
theorem dX8_copyAll_13 : decode cX8_copyAll 13 = .ok (.aaload, 1) := by decide +kernel
theorem dX8_copyAll_14 : decode cX8_copyAll 14 = .ok (.arraylength, 1) := by decide +kernel
theorem dX8_copyAll_15 : decode cX8_copyAll 15 = .ok (.if_icmp .ge 19, 3) := by decide +kernel
theorem dX8_copyAll_18 : decode cX8_copyAll 18 = .ok (.aload_n 1, 1) := by decide +kernel
theorem dX8_copyAll_19 : decode cX8_copyAll 19 = .ok (.iload_n 2, 1) := by decide +kernel
theorem dX8_copyAll_20 : decode cX8_copyAll 20 = .ok (.aaload, 1) := by decide +kernel
theorem dX8_copyAll_21 : decode cX8_copyAll 21 = .ok (.iload_n 3, 1) := by decide +kernel
theorem dX8_copyAll_22 : decode cX8_copyAll 22 = .ok (.aload_n 0, 1) := by decide +kernel
theorem dX8_copyAll_23 : decode cX8_copyAll 23 = .ok (.iload_n 2, 1) := by decide +kernel
theorem dX8_copyAll_24 : decode cX8_copyAll 24 = .ok (.aaload, 1) := by decide +kernel
theorem dX8_copyAll_25 : decode cX8_copyAll 25 = .ok (.iload_n 3, 1) := by decide +kernel
theorem dX8_copyAll_26 : decode cX8_copyAll 26 = .ok (.iaload, 1) := by decide +kernel
theorem dX8_copyAll_27 : decode cX8_copyAll 27 = .ok (.iastore, 1) := by decide +kernel
theorem dX8_copyAll_28 : decode cX8_copyAll 28 = .ok (.iinc 3 1, 3) := by decide +kernel
theorem dX8_copyAll_31 : decode cX8_copyAll 31 = .ok (.goto (-21), 3) := by decide +kernel
theorem dX8_copyAll_34 : decode cX8_copyAll 34 = .ok (.iinc 2 1, 3) := by decide +kernel
theorem dX8_copyAll_37 : decode cX8_copyAll 37 = .ok (.goto (-35), 3) := by decide +kernel
theorem dX8_copyAll_40 : decode cX8_copyAll 40 = .ok (.return_, 1) := by decide +kernel
theorem dX8_takeFrom_0 : decode cX8_takeFrom 0 = .ok (.aload_n 0, 1) := by decide +kernel
theorem dX8_takeFrom_1 : decode cX8_takeFrom 1 = .ok (.aload_n 1, 1) := by decide +kernel
theorem dX8_takeFrom_2 : decode cX8_takeFrom 2 = .ok (.getfield 19, 3) := by decide +kernel
theorem dX8_takeFrom_5 : decode cX8_takeFrom 5 = .ok (.putfield 19, 3) := by decide +kernel
theorem dX8_takeFrom_8 : decode cX8_takeFrom 8 = .ok (.aload_n 1, 1) := by decide +kernel
theorem dX8_takeFrom_9 : decode cX8_takeFrom 9 = .ok (.getfield 25, 3) := by decide +kernel
theorem dX8_takeFrom_12 : decode cX8_takeFrom 12 = .ok (.aload_n 0, 1) := by decide +kernel
theorem dX8_takeFrom_13 : decode cX8_takeFrom 13 = .ok (.getfield 25, 3) := by decide +kernel
theorem dX8_takeFrom_16 : decode cX8_takeFrom 16 = .ok (.invokestatic 246, 3) := by decide +kernel
theorem dX8_takeFrom_19 : decode cX8_takeFrom 19 = .ok (.aload_n 0, 1) := by decide +kernel
theorem dX8_takeFrom_20 : decode cX8_takeFrom 20 = .ok (.aload_n 1, 1) := by decide +kernel
theorem dX8_takeFrom_21 : decode cX8_takeFrom 21 = .ok (.getfield 65, 3) := by decide +kernel
theorem dX8_takeFrom_24 : decode cX8_takeFrom 24 = .ok (.putfield 65, 3) := by decide +kernel
theorem dX8_takeFrom_27 : decode cX8_takeFrom 27 = .ok (.aload_n 1, 1) := by decide +kernel
theorem dX8_takeFrom_28 : decode cX8_takeFrom 28 = .ok (.getfield 28, 3) := by decide +kernel
theorem dX8_takeFrom_31 : decode cX8_takeFrom 31 = .ok (.aload_n 0, 1) := by decide +kernel
theorem dX8_takeFrom_32 : decode cX8_takeFrom 32 = .ok (.getfield 28, 3) := by decide +kernel
theorem dX8_takeFrom_35 : decode cX8_takeFrom 35 = .ok (.invokestatic 246, 3) := by decide +kernel
theorem dX8_takeFrom_38 : decode cX8_takeFrom 38 = .ok (.aload_n 0, 1) := by decide +kernel
theorem dX8_takeFrom_39 : decode cX8_takeFrom 39 = .ok (.aload_n 1, 1) := by decide +kernel
theorem dX8_takeFrom_40 : decode cX8_takeFrom 40 = .ok (.getfield 68, 3) := by decide +kernel
theorem dX8_takeFrom_43 : decode cX8_takeFrom 43 = .ok (.putfield 68, 3) := by decide +kernel
theorem dX8_takeFrom_46 : decode cX8_takeFrom 46 = .ok (.aload_n 1, 1) := by decide +kernel
theorem dX8_takeFrom_47 : decode cX8_takeFrom 47 = .ok (.getfield 31, 3) := by decide +kernel
theorem dX8_takeFrom_50 : decode cX8_takeFrom 50 = .ok (.aload_n 0, 1) := by decide +kernel
theorem dX8_takeFrom_51 : decode cX8_takeFrom 51 = .ok (.getfield 31, 3) := by decide +kernel
theorem dX8_takeFrom_54 : decode cX8_takeFrom 54 = .ok (.invokestatic 246, 3) := by decide +kernel
theorem dX8_takeFrom_57 : decode cX8_takeFrom 57 = .ok (.aload_n 0, 1) := by decide +kernel
theorem dX8_takeFrom_58 : decode cX8_takeFrom 58 = .ok (.aload_n 1, 1) := by decide +kernel
theorem dX8_takeFrom_59 : decode cX8_takeFrom 59 = .ok (.getfield 148, 3) := by decide +kernel
theorem dX8_takeFrom_62 : decode cX8_takeFrom 62 = .ok (.putfield 148, 3) := by decide +kernel
theorem dX8_takeFrom_65 : decode cX8_takeFrom 65 = .ok (.return_, 1) := by decide +kernel
theorem dX8_image_0 : decode cX8_image 0 = .ok (.aload_n 0, 1) := by decide +kernel
theorem dX8_image_1 : decode cX8_image 1 = .ok (.getfield 250, 3) := by decide +kernel
theorem dX8_image_4 : decode cX8_image 4 = .ok (.ifnonnull 14, 3) := by decide +kernel
theorem dX8_image_7 : decode cX8_image 7 = .ok (.aload_n 0, 1) := by decide +kernel
theorem dX8_image_8 : decode cX8_image 8 = .ok (.new 7, 3) := by decide +kernel
theorem dX8_image_11 : decode cX8_image 11 = .ok (.dup, 1) := by decide +kernel
theorem dX8_image_12 : decode cX8_image 12 = .ok (.invokespecial 130, 3) := by decide +kernel
theorem dX8_image_15 : decode cX8_image 15 = .ok (.putfield 250, 3) := by decide +kernel
theorem dX8_image_18 : decode cX8_image 18 = .ok (.aload_n 0, 1) := by decide +kernel
theorem dX8_image_19 : decode cX8_image 19 = .ok (.getfield 250, 3) := by decide +kernel
theorem dX8_image_22 : decode cX8_image 22 = .ok (.aload_n 0, 1) := by decide +kernel
theorem dX8_image_23 : decode cX8_image 23 = .ok (.invokevirtual 131, 3) := by decide +kernel
theorem dX8_image_26 : decode cX8_image 26 = .ok (.aload_n 0, 1) := by decide +kernel
theorem dX8_image_27 : decode cX8_image 27 = .ok (.getfield 68, 3) := by decide +kernel
theorem dX8_image_30 : decode cX8_image 30 = .ok (.ireturn, 1) := by decide +kernel
theorem dX8_on_0 : decode cX8_on 0 = .ok (.aload_n 0, 1) := by decide +kernel
theorem dX8_on_1 : decode cX8_on 1 = .ok (.getfield 250, 3) := by decide +kernel
theorem dX8_on_4 : decode cX8_on 4 = .ok (.ifnonnull 10, 3) := by decide +kernel
theorem dX8_on_7 : decode cX8_on 7 = .ok (.aload_n 0, 1) := by decide +kernel
theorem dX8_on_8 : decode cX8_on 8 = .ok (.bipush (-3), 2) := by decide +kernel
theorem dX8_on_10 : decode cX8_on 10 = .ok (.invokevirtual 71, 3) := by decide +kernel
theorem dX8_on_13 : decode cX8_on 13 = .ok (.ireturn, 1) := by decide +kernel
theorem dX8_on_14 : decode cX8_on 14 = .ok (.aload_n 0, 1) := by decide +kernel
theorem dX8_on_15 : decode cX8_on 15 = .ok (.aload_n 0, 1) := by decide +kernel
theorem dX8_on_16 : decode cX8_on 16 = .ok (.getfield 250, 3) := by decide +kernel
theorem dX8_on_19 : decode cX8_on 19 = .ok (.invokevirtual 131, 3) := by decide +kernel
theorem dX8_on_22 : decode cX8_on 22 = .ok (.aload_n 0, 1) := by decide +kernel
theorem dX8_on_23 : decode cX8_on 23 = .ok (.getfield 68, 3) := by decide +kernel
theorem dX8_on_26 : decode cX8_on 26 = .ok (.ireturn, 1) := by decide +kernel
theorem dX8_count_0 : decode cX8_count 0 = .ok (.iconst 0, 1) := by decide +kernel
theorem dX8_count_1 : decode cX8_count 1 = .ok (.istore_n 2, 1) := by decide +kernel
theorem dX8_count_2 : decode cX8_count 2 = .ok (.iload_n 1, 1) := by decide +kernel
theorem dX8_count_3 : decode cX8_count 3 = .ok (.tableswitch 102 0 5 #[37, 42, 47, 52, 92, 97], 37) := by decide +kernel
theorem dX8_count_40 : decode cX8_count 40 = .ok (.aload_n 0, 1) := by decide +kernel
theorem dX8_count_41 : decode cX8_count 41 = .ok (.getfield 19, 3) := by decide +kernel
theorem dX8_count_44 : decode cX8_count 44 = .ok (.ireturn, 1) := by decide +kernel
theorem dX8_count_45 : decode cX8_count 45 = .ok (.aload_n 0, 1) := by decide +kernel
theorem dX8_count_46 : decode cX8_count 46 = .ok (.getfield 65, 3) := by decide +kernel
theorem dX8_count_49 : decode cX8_count 49 = .ok (.ireturn, 1) := by decide +kernel
theorem dX8_count_50 : decode cX8_count 50 = .ok (.aload_n 0, 1) := by decide +kernel
theorem dX8_count_51 : decode cX8_count 51 = .ok (.getfield 68, 3) := by decide +kernel
theorem dX8_count_54 : decode cX8_count 54 = .ok (.ireturn, 1) := by decide +kernel
theorem dX8_count_55 : decode cX8_count 55 = .ok (.iconst 0, 1) := by decide +kernel
theorem dX8_count_56 : decode cX8_count 56 = .ok (.istore_n 3, 1) := by decide +kernel
theorem dX8_count_57 : decode cX8_count 57 = .ok (.iload_n 3, 1) := by decide +kernel
theorem dX8_count_58 : decode cX8_count 58 = .ok (.aload_n 0, 1) := by decide +kernel
theorem dX8_count_59 : decode cX8_count 59 = .ok (.getfield 68, 3) := by decide +kernel
theorem dX8_count_62 : decode cX8_count 62 = .ok (.if_icmp .ge 31, 3) := by decide +kernel
theorem dX8_count_65 : decode cX8_count 65 = .ok (.iload_n 2, 1) := by decide +kernel
theorem dX8_count_66 : decode cX8_count 66 = .ok (.aload_n 0, 1) := by decide +kernel
theorem dX8_count_67 : decode cX8_count 67 = .ok (.getfield 31, 3) := by decide +kernel
theorem dX8_count_70 : decode cX8_count 70 = .ok (.iload_n 3, 1) := by decide +kernel
theorem dX8_count_71 : decode cX8_count 71 = .ok (.aaload, 1) := by decide +kernel
theorem dX8_count_72 : decode cX8_count 72 = .ok (.bipush 7, 2) := by decide +kernel
theorem dX8_count_74 : decode cX8_count 74 = .ok (.iaload, 1) := by decide +kernel
theorem dX8_count_75 : decode cX8_count 75 = .ok (.bipush 10, 2) := by decide +kernel
theorem dX8_count_77 : decode cX8_count 77 = .ok (.if_icmp .lt 7, 3) := by decide +kernel
theorem dX8_count_80 : decode cX8_count 80 = .ok (.iconst 1, 1) := by decide +kernel
theorem dX8_count_81 : decode cX8_count 81 = .ok (.goto 4, 3) := by decide +kernel
theorem dX8_count_84 : decode cX8_count 84 = .ok (.iconst 0, 1) := by decide +kernel
theorem dX8_count_85 : decode cX8_count 85 = .ok (.iadd, 1) := by decide +kernel
theorem dX8_count_86 : decode cX8_count 86 = .ok (.istore_n 2, 1) := by decide +kernel
theorem dX8_count_87 : decode cX8_count 87 = .ok (.iinc 3 1, 3) := by decide +kernel
theorem dX8_count_90 : decode cX8_count 90 = .ok (.goto (-33), 3) := by decide +kernel
theorem dX8_count_93 : decode cX8_count 93 = .ok (.iload_n 2, 1) := by decide +kernel
theorem dX8_count_94 : decode cX8_count 94 = .ok (.ireturn, 1) := by decide +kernel
theorem dX8_count_95 : decode cX8_count 95 = .ok (.aload_n 0, 1) := by decide +kernel
theorem dX8_count_96 : decode cX8_count 96 = .ok (.getfield 240, 3) := by decide +kernel
theorem dX8_count_99 : decode cX8_count 99 = .ok (.ireturn, 1) := by decide +kernel
theorem dX8_count_100 : decode cX8_count 100 = .ok (.aload_n 0, 1) := by decide +kernel
theorem dX8_count_101 : decode cX8_count 101 = .ok (.getfield 75, 3) := by decide +kernel
theorem dX8_count_104 : decode cX8_count 104 = .ok (.ireturn, 1) := by decide +kernel
theorem dX8_count_105 : decode cX8_count 105 = .ok (.iload_n 1, 1) := by decide +kernel
theorem dX8_count_106 : decode cX8_count 106 = .ok (.bipush 11, 2) := by decide +kernel
theorem dX8_count_108 : decode cX8_count 108 = .ok (.bipush 16, 2) := by decide +kernel
theorem dX8_count_110 : decode cX8_count 110 = .ok (.invokestatic 61, 3) := by decide +kernel
theorem dX8_count_113 : decode cX8_count 113 = .ok (.ifCond .eq 15, 3) := by decide +kernel
theorem dX8_count_116 : decode cX8_count 116 = .ok (.aload_n 0, 1) := by decide +kernel
theorem dX8_count_117 : decode cX8_count 117 = .ok (.getfield 16, 3) := by decide +kernel
theorem dX8_count_120 : decode cX8_count 120 = .ok (.iload_n 1, 1) := by decide +kernel
theorem dX8_count_121 : decode cX8_count 121 = .ok (.bipush 10, 2) := by decide +kernel
theorem dX8_count_123 : decode cX8_count 123 = .ok (.isub, 1) := by decide +kernel
theorem dX8_count_124 : decode cX8_count 124 = .ok (.iaload, 1) := by decide +kernel
theorem dX8_count_125 : decode cX8_count 125 = .ok (.goto 5, 3) := by decide +kernel
theorem dX8_count_128 : decode cX8_count 128 = .ok (.bipush (-9), 2) := by decide +kernel
theorem dX8_count_130 : decode cX8_count 130 = .ok (.ireturn, 1) := by decide +kernel
end
