-- ===== PART A: goes FIRST, ahead of the names: the tables' words, and 'selects' of the private methods out of them =====
/-- a private method of a class that the tables say can be made, by its rows of tables_1 -/
def lw_okq (q : MethodName × Nat) : Prop := (q.1.cls ≠ "java/lang/invoke/MethodHandle" ∧ q.1.cls ≠ "java/lang/invoke/VarHandle") ∧ Cond.instantiable q.1.cls q.2 ∈ tables_1 ∧ Cond.privateMethod q.1 ∈ tables_1 ∧ Cond.instanceMethod q.1 ∈ tables_1
theorem lw_p0 : lw_okq (⟨"FerryChange", "answerFinding", "(I)I"⟩, 13) := ⟨⟨by decide +kernel, by decide +kernel⟩, List.mem_of_getElem? (i := 13) (by decide +kernel), List.mem_of_getElem? (i := 163) (by decide +kernel), List.mem_of_getElem? (i := 164) (by decide +kernel)⟩
theorem lw_p1 : lw_okq (⟨"FerryChange", "refusalOfPlace", "(LFerryChange$Row;I)I"⟩, 13) := ⟨⟨by decide +kernel, by decide +kernel⟩, List.mem_of_getElem? (i := 13) (by decide +kernel), List.mem_of_getElem? (i := 175) (by decide +kernel), List.mem_of_getElem? (i := 176) (by decide +kernel)⟩
theorem lw_p2 : lw_okq (⟨"FerryChange", "boardAll", "(LFerryChange$Row;)V"⟩, 13) := ⟨⟨by decide +kernel, by decide +kernel⟩, List.mem_of_getElem? (i := 13) (by decide +kernel), List.mem_of_getElem? (i := 234) (by decide +kernel), List.mem_of_getElem? (i := 235) (by decide +kernel)⟩
theorem lw_p3 : lw_okq (⟨"FerryChange", "boardOne", "(LFerryChange$Row;I)V"⟩, 13) := ⟨⟨by decide +kernel, by decide +kernel⟩, List.mem_of_getElem? (i := 13) (by decide +kernel), List.mem_of_getElem? (i := 242) (by decide +kernel), List.mem_of_getElem? (i := 243) (by decide +kernel)⟩
theorem lw_p4 : lw_okq (⟨"FerryChange", "isPassenger", "(I)Z"⟩, 13) := ⟨⟨by decide +kernel, by decide +kernel⟩, List.mem_of_getElem? (i := 13) (by decide +kernel), List.mem_of_getElem? (i := 254) (by decide +kernel), List.mem_of_getElem? (i := 255) (by decide +kernel)⟩
theorem lw_p5 : lw_okq (⟨"FerryChange", "knownOf", "(II)I"⟩, 13) := ⟨⟨by decide +kernel, by decide +kernel⟩, List.mem_of_getElem? (i := 13) (by decide +kernel), List.mem_of_getElem? (i := 258) (by decide +kernel), List.mem_of_getElem? (i := 259) (by decide +kernel)⟩
theorem lw_p6 : lw_okq (⟨"FerryChange$Ferry", "noteDeed", "(I)V"⟩, 10) := ⟨⟨by decide +kernel, by decide +kernel⟩, List.mem_of_getElem? (i := 23) (by decide +kernel), List.mem_of_getElem? (i := 329) (by decide +kernel), List.mem_of_getElem? (i := 330) (by decide +kernel)⟩
theorem lw_p7 : lw_okq (⟨"FerryChange", "refusalOfRow", "(LFerryChange$Row;IIII)I"⟩, 13) := ⟨⟨by decide +kernel, by decide +kernel⟩, List.mem_of_getElem? (i := 13) (by decide +kernel), List.mem_of_getElem? (i := 382) (by decide +kernel), List.mem_of_getElem? (i := 383) (by decide +kernel)⟩
theorem lw_p8 : lw_okq (⟨"FerryChange", "livesNewlyFound", "(II)I"⟩, 13) := ⟨⟨by decide +kernel, by decide +kernel⟩, List.mem_of_getElem? (i := 13) (by decide +kernel), List.mem_of_getElem? (i := 404) (by decide +kernel), List.mem_of_getElem? (i := 405) (by decide +kernel)⟩
theorem lw_p9 : lw_okq (⟨"FerryChange", "tell", "(JJ)V"⟩, 13) := ⟨⟨by decide +kernel, by decide +kernel⟩, List.mem_of_getElem? (i := 13) (by decide +kernel), List.mem_of_getElem? (i := 411) (by decide +kernel), List.mem_of_getElem? (i := 412) (by decide +kernel)⟩
theorem lw_p10 : lw_okq (⟨"FerryChange", "refusalOfPairs", "(LFerryChange$Row;)I"⟩, 13) := ⟨⟨by decide +kernel, by decide +kernel⟩, List.mem_of_getElem? (i := 13) (by decide +kernel), List.mem_of_getElem? (i := 426) (by decide +kernel), List.mem_of_getElem? (i := 427) (by decide +kernel)⟩
theorem lw_p11 : lw_okq (⟨"FerryChange", "kindsThatFit", "(ILFerryChange$Row;)I"⟩, 13) := ⟨⟨by decide +kernel, by decide +kernel⟩, List.mem_of_getElem? (i := 13) (by decide +kernel), List.mem_of_getElem? (i := 430) (by decide +kernel), List.mem_of_getElem? (i := 431) (by decide +kernel)⟩
theorem lw_p12 : lw_okq (⟨"FerryChange", "fits", "(IILFerryChange$Row;)Z"⟩, 13) := ⟨⟨by decide +kernel, by decide +kernel⟩, List.mem_of_getElem? (i := 13) (by decide +kernel), List.mem_of_getElem? (i := 434) (by decide +kernel), List.mem_of_getElem? (i := 435) (by decide +kernel)⟩
theorem lw_p13 : lw_okq (⟨"FerryChange", "greatestPart", "(III)I"⟩, 13) := ⟨⟨by decide +kernel, by decide +kernel⟩, List.mem_of_getElem? (i := 13) (by decide +kernel), List.mem_of_getElem? (i := 443) (by decide +kernel), List.mem_of_getElem? (i := 444) (by decide +kernel)⟩
theorem lw_p14 : lw_okq (⟨"FerryChange", "fewestBoatsOf", "(II)I"⟩, 13) := ⟨⟨by decide +kernel, by decide +kernel⟩, List.mem_of_getElem? (i := 13) (by decide +kernel), List.mem_of_getElem? (i := 462) (by decide +kernel), List.mem_of_getElem? (i := 463) (by decide +kernel)⟩
theorem lw_p15 : lw_okq (⟨"FerryChange", "isBoat", "(IIII)Z"⟩, 13) := ⟨⟨by decide +kernel, by decide +kernel⟩, List.mem_of_getElem? (i := 13) (by decide +kernel), List.mem_of_getElem? (i := 466) (by decide +kernel), List.mem_of_getElem? (i := 467) (by decide +kernel)⟩
def lw_privs_1 : List (MethodName × Nat) := [(⟨"FerryChange", "answerFinding", "(I)I"⟩, 13), (⟨"FerryChange", "refusalOfPlace", "(LFerryChange$Row;I)I"⟩, 13), (⟨"FerryChange", "boardAll", "(LFerryChange$Row;)V"⟩, 13), (⟨"FerryChange", "boardOne", "(LFerryChange$Row;I)V"⟩, 13), (⟨"FerryChange", "isPassenger", "(I)Z"⟩, 13), (⟨"FerryChange", "knownOf", "(II)I"⟩, 13), (⟨"FerryChange$Ferry", "noteDeed", "(I)V"⟩, 10), (⟨"FerryChange", "refusalOfRow", "(LFerryChange$Row;IIII)I"⟩, 13), (⟨"FerryChange", "livesNewlyFound", "(II)I"⟩, 13), (⟨"FerryChange", "tell", "(JJ)V"⟩, 13), (⟨"FerryChange", "refusalOfPairs", "(LFerryChange$Row;)I"⟩, 13), (⟨"FerryChange", "kindsThatFit", "(ILFerryChange$Row;)I"⟩, 13), (⟨"FerryChange", "fits", "(IILFerryChange$Row;)Z"⟩, 13), (⟨"FerryChange", "greatestPart", "(III)I"⟩, 13), (⟨"FerryChange", "fewestBoatsOf", "(II)I"⟩, 13), (⟨"FerryChange", "isBoat", "(IIII)Z"⟩, 13)]
theorem lw_r1 : ∀ q ∈ lw_privs_1, lw_okq q := List.forall_mem_cons.mpr ⟨lw_p0, List.forall_mem_cons.mpr ⟨lw_p1, List.forall_mem_cons.mpr ⟨lw_p2, List.forall_mem_cons.mpr ⟨lw_p3, List.forall_mem_cons.mpr ⟨lw_p4, List.forall_mem_cons.mpr ⟨lw_p5, List.forall_mem_cons.mpr ⟨lw_p6, List.forall_mem_cons.mpr ⟨lw_p7, List.forall_mem_cons.mpr ⟨lw_p8, List.forall_mem_cons.mpr ⟨lw_p9, List.forall_mem_cons.mpr ⟨lw_p10, List.forall_mem_cons.mpr ⟨lw_p11, List.forall_mem_cons.mpr ⟨lw_p12, List.forall_mem_cons.mpr ⟨lw_p13, List.forall_mem_cons.mpr ⟨lw_p14, List.forall_mem_cons.mpr ⟨lw_p15, fun _ h => absurd h List.not_mem_nil⟩⟩⟩⟩⟩⟩⟩⟩⟩⟩⟩⟩⟩⟩⟩⟩
theorem lw_p16 : lw_okq (⟨"FerryChange", "firstBoat", "(II)I"⟩, 13) := ⟨⟨by decide +kernel, by decide +kernel⟩, List.mem_of_getElem? (i := 13) (by decide +kernel), List.mem_of_getElem? (i := 477) (by decide +kernel), List.mem_of_getElem? (i := 478) (by decide +kernel)⟩
theorem lw_p17 : lw_okq (⟨"FerryChange", "answerChances", "(IIIZ)I"⟩, 13) := ⟨⟨by decide +kernel, by decide +kernel⟩, List.mem_of_getElem? (i := 13) (by decide +kernel), List.mem_of_getElem? (i := 504) (by decide +kernel), List.mem_of_getElem? (i := 505) (by decide +kernel)⟩
theorem lw_p18 : lw_okq (⟨"FerryChange", "tellChances", "(ILFerryChange$Row;IZ)V"⟩, 13) := ⟨⟨by decide +kernel, by decide +kernel⟩, List.mem_of_getElem? (i := 13) (by decide +kernel), List.mem_of_getElem? (i := 508) (by decide +kernel), List.mem_of_getElem? (i := 509) (by decide +kernel)⟩
theorem lw_p19 : lw_okq (⟨"FerryChange", "weighedEnd", "(ILFerryChange$Row;IIZ)J"⟩, 13) := ⟨⟨by decide +kernel, by decide +kernel⟩, List.mem_of_getElem? (i := 13) (by decide +kernel), List.mem_of_getElem? (i := 513) (by decide +kernel), List.mem_of_getElem? (i := 514) (by decide +kernel)⟩
theorem lw_p20 : lw_okq (⟨"FerryChange", "howManyKept", "()I"⟩, 13) := ⟨⟨by decide +kernel, by decide +kernel⟩, List.mem_of_getElem? (i := 13) (by decide +kernel), List.mem_of_getElem? (i := 561) (by decide +kernel), List.mem_of_getElem? (i := 562) (by decide +kernel)⟩
theorem lw_p21 : lw_okq (⟨"FerryChangeModel", "found", "(I)I"⟩, 24) := ⟨⟨by decide +kernel, by decide +kernel⟩, List.mem_of_getElem? (i := 585) (by decide +kernel), List.mem_of_getElem? (i := 675) (by decide +kernel), List.mem_of_getElem? (i := 676) (by decide +kernel)⟩
theorem lw_p22 : lw_okq (⟨"FerryChangeModel", "makesRow", "(II)V"⟩, 24) := ⟨⟨by decide +kernel, by decide +kernel⟩, List.mem_of_getElem? (i := 585) (by decide +kernel), List.mem_of_getElem? (i := 679) (by decide +kernel), List.mem_of_getElem? (i := 680) (by decide +kernel)⟩
theorem lw_p23 : lw_okq (⟨"FerryChangeModel", "placeOf", "(II)I"⟩, 24) := ⟨⟨by decide +kernel, by decide +kernel⟩, List.mem_of_getElem? (i := 585) (by decide +kernel), List.mem_of_getElem? (i := 687) (by decide +kernel), List.mem_of_getElem? (i := 688) (by decide +kernel)⟩
theorem lw_p24 : lw_okq (⟨"FerryChangeModel", "tells", "(II)I"⟩, 24) := ⟨⟨by decide +kernel, by decide +kernel⟩, List.mem_of_getElem? (i := 585) (by decide +kernel), List.mem_of_getElem? (i := 691) (by decide +kernel), List.mem_of_getElem? (i := 692) (by decide +kernel)⟩
theorem lw_p25 : lw_okq (⟨"FerryChangeModel", "reading", "(I)I"⟩, 24) := ⟨⟨by decide +kernel, by decide +kernel⟩, List.mem_of_getElem? (i := 585) (by decide +kernel), List.mem_of_getElem? (i := 726) (by decide +kernel), List.mem_of_getElem? (i := 727) (by decide +kernel)⟩
theorem lw_p26 : lw_okq (⟨"FerryChangeModel", "isOne", "(I)Z"⟩, 24) := ⟨⟨by decide +kernel, by decide +kernel⟩, List.mem_of_getElem? (i := 585) (by decide +kernel), List.mem_of_getElem? (i := 744) (by decide +kernel), List.mem_of_getElem? (i := 745) (by decide +kernel)⟩
theorem lw_p27 : lw_okq (⟨"FerryChangeModel", "passengerOf", "(II)I"⟩, 24) := ⟨⟨by decide +kernel, by decide +kernel⟩, List.mem_of_getElem? (i := 585) (by decide +kernel), List.mem_of_getElem? (i := 748) (by decide +kernel), List.mem_of_getElem? (i := 749) (by decide +kernel)⟩
theorem lw_p28 : lw_okq (⟨"FerryChangeModel", "weightOf", "(I)I"⟩, 24) := ⟨⟨by decide +kernel, by decide +kernel⟩, List.mem_of_getElem? (i := 585) (by decide +kernel), List.mem_of_getElem? (i := 752) (by decide +kernel), List.mem_of_getElem? (i := 753) (by decide +kernel)⟩
theorem lw_p29 : lw_okq (⟨"FerryChangeModel", "isA", "(II)Z"⟩, 24) := ⟨⟨by decide +kernel, by decide +kernel⟩, List.mem_of_getElem? (i := 585) (by decide +kernel), List.mem_of_getElem? (i := 759) (by decide +kernel), List.mem_of_getElem? (i := 760) (by decide +kernel)⟩
theorem lw_p30 : lw_okq (⟨"FerryChangeModel", "landsBy", "(I)I"⟩, 24) := ⟨⟨by decide +kernel, by decide +kernel⟩, List.mem_of_getElem? (i := 585) (by decide +kernel), List.mem_of_getElem? (i := 763) (by decide +kernel), List.mem_of_getElem? (i := 764) (by decide +kernel)⟩
theorem lw_p31 : lw_okq (⟨"FerryChangeModel", "mayLand", "([III)Z"⟩, 24) := ⟨⟨by decide +kernel, by decide +kernel⟩, List.mem_of_getElem? (i := 585) (by decide +kernel), List.mem_of_getElem? (i := 767) (by decide +kernel), List.mem_of_getElem? (i := 768) (by decide +kernel)⟩
def lw_privs_2 : List (MethodName × Nat) := [(⟨"FerryChange", "firstBoat", "(II)I"⟩, 13), (⟨"FerryChange", "answerChances", "(IIIZ)I"⟩, 13), (⟨"FerryChange", "tellChances", "(ILFerryChange$Row;IZ)V"⟩, 13), (⟨"FerryChange", "weighedEnd", "(ILFerryChange$Row;IIZ)J"⟩, 13), (⟨"FerryChange", "howManyKept", "()I"⟩, 13), (⟨"FerryChangeModel", "found", "(I)I"⟩, 24), (⟨"FerryChangeModel", "makesRow", "(II)V"⟩, 24), (⟨"FerryChangeModel", "placeOf", "(II)I"⟩, 24), (⟨"FerryChangeModel", "tells", "(II)I"⟩, 24), (⟨"FerryChangeModel", "reading", "(I)I"⟩, 24), (⟨"FerryChangeModel", "isOne", "(I)Z"⟩, 24), (⟨"FerryChangeModel", "passengerOf", "(II)I"⟩, 24), (⟨"FerryChangeModel", "weightOf", "(I)I"⟩, 24), (⟨"FerryChangeModel", "isA", "(II)Z"⟩, 24), (⟨"FerryChangeModel", "landsBy", "(I)I"⟩, 24), (⟨"FerryChangeModel", "mayLand", "([III)Z"⟩, 24)]
theorem lw_r2 : ∀ q ∈ lw_privs_2, lw_okq q := List.forall_mem_cons.mpr ⟨lw_p16, List.forall_mem_cons.mpr ⟨lw_p17, List.forall_mem_cons.mpr ⟨lw_p18, List.forall_mem_cons.mpr ⟨lw_p19, List.forall_mem_cons.mpr ⟨lw_p20, List.forall_mem_cons.mpr ⟨lw_p21, List.forall_mem_cons.mpr ⟨lw_p22, List.forall_mem_cons.mpr ⟨lw_p23, List.forall_mem_cons.mpr ⟨lw_p24, List.forall_mem_cons.mpr ⟨lw_p25, List.forall_mem_cons.mpr ⟨lw_p26, List.forall_mem_cons.mpr ⟨lw_p27, List.forall_mem_cons.mpr ⟨lw_p28, List.forall_mem_cons.mpr ⟨lw_p29, List.forall_mem_cons.mpr ⟨lw_p30, List.forall_mem_cons.mpr ⟨lw_p31, fun _ h => absurd h List.not_mem_nil⟩⟩⟩⟩⟩⟩⟩⟩⟩⟩⟩⟩⟩⟩⟩⟩
theorem lw_p32 : lw_okq (⟨"FerryChangeModel", "whichBy", "(II)I"⟩, 24) := ⟨⟨by decide +kernel, by decide +kernel⟩, List.mem_of_getElem? (i := 585) (by decide +kernel), List.mem_of_getElem? (i := 771) (by decide +kernel), List.mem_of_getElem? (i := 772) (by decide +kernel)⟩
theorem lw_p33 : lw_okq (⟨"FerryChangeModel", "changeBy", "(III)I"⟩, 24) := ⟨⟨by decide +kernel, by decide +kernel⟩, List.mem_of_getElem? (i := 585) (by decide +kernel), List.mem_of_getElem? (i := 775) (by decide +kernel), List.mem_of_getElem? (i := 776) (by decide +kernel)⟩
theorem lw_p34 : lw_okq (⟨"FerryChangeModel", "leastThing", "(I)I"⟩, 24) := ⟨⟨by decide +kernel, by decide +kernel⟩, List.mem_of_getElem? (i := 585) (by decide +kernel), List.mem_of_getElem? (i := 786) (by decide +kernel), List.mem_of_getElem? (i := 787) (by decide +kernel)⟩
theorem lw_p35 : lw_okq (⟨"FerryChangeModel", "besides", "(I)I"⟩, 24) := ⟨⟨by decide +kernel, by decide +kernel⟩, List.mem_of_getElem? (i := 585) (by decide +kernel), List.mem_of_getElem? (i := 790) (by decide +kernel), List.mem_of_getElem? (i := 791) (by decide +kernel)⟩
theorem lw_p36 : lw_okq (⟨"FerryChangeModel", "notes", "()V"⟩, 24) := ⟨⟨by decide +kernel, by decide +kernel⟩, List.mem_of_getElem? (i := 585) (by decide +kernel), List.mem_of_getElem? (i := 798) (by decide +kernel), List.mem_of_getElem? (i := 799) (by decide +kernel)⟩
theorem lw_p37 : lw_okq (⟨"FerryChangeModel", "crosses", "([III)Z"⟩, 24) := ⟨⟨by decide +kernel, by decide +kernel⟩, List.mem_of_getElem? (i := 585) (by decide +kernel), List.mem_of_getElem? (i := 802) (by decide +kernel), List.mem_of_getElem? (i := 803) (by decide +kernel)⟩
theorem lw_p38 : lw_okq (⟨"FerryChangeModel", "rowFound", "(IIIII)I"⟩, 24) := ⟨⟨by decide +kernel, by decide +kernel⟩, List.mem_of_getElem? (i := 585) (by decide +kernel), List.mem_of_getElem? (i := 830) (by decide +kernel), List.mem_of_getElem? (i := 831) (by decide +kernel)⟩
theorem lw_p39 : lw_okq (⟨"FerryChangeModel", "asItIs", "()V"⟩, 24) := ⟨⟨by decide +kernel, by decide +kernel⟩, List.mem_of_getElem? (i := 585) (by decide +kernel), List.mem_of_getElem? (i := 834) (by decide +kernel), List.mem_of_getElem? (i := 835) (by decide +kernel)⟩
theorem lw_p40 : lw_okq (⟨"FerryChangeModel", "crossesBy", "(III)V"⟩, 24) := ⟨⟨by decide +kernel, by decide +kernel⟩, List.mem_of_getElem? (i := 585) (by decide +kernel), List.mem_of_getElem? (i := 848) (by decide +kernel), List.mem_of_getElem? (i := 849) (by decide +kernel)⟩
theorem lw_p41 : lw_okq (⟨"FerryChangeModel", "isLife", "([III)Z"⟩, 24) := ⟨⟨by decide +kernel, by decide +kernel⟩, List.mem_of_getElem? (i := 585) (by decide +kernel), List.mem_of_getElem? (i := 852) (by decide +kernel), List.mem_of_getElem? (i := 853) (by decide +kernel)⟩
theorem lw_p42 : lw_okq (⟨"FerryChangeModel", "tellsPart", "(JJ)I"⟩, 24) := ⟨⟨by decide +kernel, by decide +kernel⟩, List.mem_of_getElem? (i := 585) (by decide +kernel), List.mem_of_getElem? (i := 860) (by decide +kernel), List.mem_of_getElem? (i := 861) (by decide +kernel)⟩
theorem lw_p43 : lw_okq (⟨"FerryChangeModel", "pairsFound", "(I)I"⟩, 24) := ⟨⟨by decide +kernel, by decide +kernel⟩, List.mem_of_getElem? (i := 585) (by decide +kernel), List.mem_of_getElem? (i := 872) (by decide +kernel), List.mem_of_getElem? (i := 873) (by decide +kernel)⟩
theorem lw_p44 : lw_okq (⟨"FerryChangeModel", "kindsOf", "(II)I"⟩, 24) := ⟨⟨by decide +kernel, by decide +kernel⟩, List.mem_of_getElem? (i := 585) (by decide +kernel), List.mem_of_getElem? (i := 876) (by decide +kernel), List.mem_of_getElem? (i := 877) (by decide +kernel)⟩
theorem lw_p45 : lw_okq (⟨"FerryChangeModel", "greatest", "(III)I"⟩, 24) := ⟨⟨by decide +kernel, by decide +kernel⟩, List.mem_of_getElem? (i := 585) (by decide +kernel), List.mem_of_getElem? (i := 884) (by decide +kernel), List.mem_of_getElem? (i := 885) (by decide +kernel)⟩
theorem lw_p46 : lw_okq (⟨"FerryChangeModel", "weightsOf", "(I)I"⟩, 24) := ⟨⟨by decide +kernel, by decide +kernel⟩, List.mem_of_getElem? (i := 585) (by decide +kernel), List.mem_of_getElem? (i := 892) (by decide +kernel), List.mem_of_getElem? (i := 893) (by decide +kernel)⟩
theorem lw_p47 : lw_okq (⟨"FerryChangeModel", "failing", "(IIIZ)I"⟩, 24) := ⟨⟨by decide +kernel, by decide +kernel⟩, List.mem_of_getElem? (i := 585) (by decide +kernel), List.mem_of_getElem? (i := 916) (by decide +kernel), List.mem_of_getElem? (i := 917) (by decide +kernel)⟩
def lw_privs_3 : List (MethodName × Nat) := [(⟨"FerryChangeModel", "whichBy", "(II)I"⟩, 24), (⟨"FerryChangeModel", "changeBy", "(III)I"⟩, 24), (⟨"FerryChangeModel", "leastThing", "(I)I"⟩, 24), (⟨"FerryChangeModel", "besides", "(I)I"⟩, 24), (⟨"FerryChangeModel", "notes", "()V"⟩, 24), (⟨"FerryChangeModel", "crosses", "([III)Z"⟩, 24), (⟨"FerryChangeModel", "rowFound", "(IIIII)I"⟩, 24), (⟨"FerryChangeModel", "asItIs", "()V"⟩, 24), (⟨"FerryChangeModel", "crossesBy", "(III)V"⟩, 24), (⟨"FerryChangeModel", "isLife", "([III)Z"⟩, 24), (⟨"FerryChangeModel", "tellsPart", "(JJ)I"⟩, 24), (⟨"FerryChangeModel", "pairsFound", "(I)I"⟩, 24), (⟨"FerryChangeModel", "kindsOf", "(II)I"⟩, 24), (⟨"FerryChangeModel", "greatest", "(III)I"⟩, 24), (⟨"FerryChangeModel", "weightsOf", "(I)I"⟩, 24), (⟨"FerryChangeModel", "failing", "(IIIZ)I"⟩, 24)]
theorem lw_r3 : ∀ q ∈ lw_privs_3, lw_okq q := List.forall_mem_cons.mpr ⟨lw_p32, List.forall_mem_cons.mpr ⟨lw_p33, List.forall_mem_cons.mpr ⟨lw_p34, List.forall_mem_cons.mpr ⟨lw_p35, List.forall_mem_cons.mpr ⟨lw_p36, List.forall_mem_cons.mpr ⟨lw_p37, List.forall_mem_cons.mpr ⟨lw_p38, List.forall_mem_cons.mpr ⟨lw_p39, List.forall_mem_cons.mpr ⟨lw_p40, List.forall_mem_cons.mpr ⟨lw_p41, List.forall_mem_cons.mpr ⟨lw_p42, List.forall_mem_cons.mpr ⟨lw_p43, List.forall_mem_cons.mpr ⟨lw_p44, List.forall_mem_cons.mpr ⟨lw_p45, List.forall_mem_cons.mpr ⟨lw_p46, List.forall_mem_cons.mpr ⟨lw_p47, fun _ h => absurd h List.not_mem_nil⟩⟩⟩⟩⟩⟩⟩⟩⟩⟩⟩⟩⟩⟩⟩⟩
theorem lw_p48 : lw_okq (⟨"FerryChangeModel", "across", "()I"⟩, 24) := ⟨⟨by decide +kernel, by decide +kernel⟩, List.mem_of_getElem? (i := 585) (by decide +kernel), List.mem_of_getElem? (i := 931) (by decide +kernel), List.mem_of_getElem? (i := 932) (by decide +kernel)⟩
theorem lw_p49 : lw_okq (⟨"FerryChangeModel", "those", "(I)I"⟩, 24) := ⟨⟨by decide +kernel, by decide +kernel⟩, List.mem_of_getElem? (i := 585) (by decide +kernel), List.mem_of_getElem? (i := 951) (by decide +kernel), List.mem_of_getElem? (i := 952) (by decide +kernel)⟩
theorem lw_p50 : lw_okq (⟨"FerryChangeModel", "keptMany", "()I"⟩, 24) := ⟨⟨by decide +kernel, by decide +kernel⟩, List.mem_of_getElem? (i := 585) (by decide +kernel), List.mem_of_getElem? (i := 958) (by decide +kernel), List.mem_of_getElem? (i := 959) (by decide +kernel)⟩
def lw_privs_4 : List (MethodName × Nat) := [(⟨"FerryChangeModel", "across", "()I"⟩, 24), (⟨"FerryChangeModel", "those", "(I)I"⟩, 24), (⟨"FerryChangeModel", "keptMany", "()I"⟩, 24)]
theorem lw_r4 : ∀ q ∈ lw_privs_4, lw_okq q := List.forall_mem_cons.mpr ⟨lw_p48, List.forall_mem_cons.mpr ⟨lw_p49, List.forall_mem_cons.mpr ⟨lw_p50, fun _ h => absurd h List.not_mem_nil⟩⟩⟩
def lw_privs : List (MethodName × Nat) := lw_privs_1 ++ (lw_privs_2 ++ (lw_privs_3 ++ (lw_privs_4)))
def lw_tbl : List Cond := k2_sels lw_privs ++ tables_1
theorem lw_privs_ok : ∀ q ∈ lw_privs, lw_okq q := by
  show ∀ q ∈ lw_privs_1 ++ (lw_privs_2 ++ (lw_privs_3 ++ (lw_privs_4))), lw_okq q
  exact List.forall_mem_append.mpr ⟨lw_r1, List.forall_mem_append.mpr ⟨lw_r2, List.forall_mem_append.mpr ⟨lw_r3, lw_r4⟩⟩⟩

-- classes and fields (the lines that NAMES.whole prints)
def RX0 : String := "FerryChange$Ferry"
def TX0 : u_T := fun k => match k with
  | 0 => ("FerryChange$Ferry", "kind", "[I", true)
  | 1 => ("FerryChange$Ferry", "life", "[I", true)
  | 2 => ("FerryChange$Ferry", "bank", "[I", true)
  | 3 => ("FerryChange$Ferry", "deedBy", "[I", true)
  | 4 => ("FerryChange$Ferry", "lifeAhead", "[I", true)
  | 5 => ("FerryChange$Ferry", "bankAhead", "[I", true)
  | 6 => ("FerryChange$Ferry", "crossingAhead", "[I", true)
  | 7 => ("FerryChange$Ferry", "size", "I", false)
  | 8 => ("FerryChange$Ferry", "crossing", "I", false)
  | _ => ("FerryChange$Ferry", "deeds", "I", false)
def tyX0 : Nat → FieldType := fun k => match k with
  | 0 => .array .int
  | 1 => .array .int
  | 2 => .array .int
  | 3 => .array .int
  | 4 => .array .int
  | 5 => .array .int
  | 6 => .array .int
  | 7 => .int
  | 8 => .int
  | _ => .int
theorem nmX0 : ∀ a, a < 10 → ∀ b, b < 10 → a ≠ b → (TX0 a).2.1 ≠ (TX0 b).2.1 := by decide +kernel
theorem tyX0_ok : ∀ k, k < 10 → parseFieldDescriptor (TX0 k).2.2.1 = some (tyX0 k) := by decide +kernel
def RX3 : String := "FerryChange$Row"
def TX3 : u_T := fun k => match k with
  | 0 => ("FerryChange$Row", "places", "[I", true)
  | _ => ("FerryChange$Row", "size", "I", false)
def tyX3 : Nat → FieldType := fun k => match k with
  | 0 => .array .int
  | _ => .int
theorem nmX3 : ∀ a, a < 2 → ∀ b, b < 2 → a ≠ b → (TX3 a).2.1 ≠ (TX3 b).2.1 := by decide +kernel
theorem tyX3_ok : ∀ k, k < 2 → parseFieldDescriptor (TX3 k).2.2.1 = some (tyX3 k) := by decide +kernel
def RX4 : String := "FerryChange$Search"
def TX4 : u_T := fun k => match k with
  | 0 => ("FerryChange$Search", "path", "[I", true)
  | 1 => ("FerryChange$Search", "wanted", "[I", true)
  | 2 => ("FerryChange$Search", "kind", "I", false)
  | 3 => ("FerryChange$Search", "number", "I", false)
  | 4 => ("FerryChange$Search", "crossings", "I", false)
  | _ => ("FerryChange$Search", "bank", "I", false)
def tyX4 : Nat → FieldType := fun k => match k with
  | 0 => .array .int
  | 1 => .array .int
  | 2 => .int
  | 3 => .int
  | 4 => .int
  | _ => .int
theorem nmX4 : ∀ a, a < 6 → ∀ b, b < 6 → a ≠ b → (TX4 a).2.1 ≠ (TX4 b).2.1 := by decide +kernel
theorem tyX4_ok : ∀ k, k < 6 → parseFieldDescriptor (TX4 k).2.2.1 = some (tyX4 k) := by decide +kernel
def RX5 : String := "FerryChange"
def TX5 : u_T := fun k => match k with
  | 0 => ("FerryChange", "rows", "[LFerryChange$Row;", true)
  | 1 => ("FerryChange", "texts", "[LFerryChange$Row;", true)
  | 2 => ("FerryChange", "ferry", "LFerryChange$Ferry;", true)
  | 3 => ("FerryChange", "kept", "[LFerryChange$Ferry;", true)
  | 4 => ("FerryChange", "findingCounts", "[I", true)
  | 5 => ("FerryChange", "lastFinding", "I", false)
  | 6 => ("FerryChange", "lastAsked", "I", false)
  | 7 => ("FerryChange", "lastUpper", "J", false)
  | 8 => ("FerryChange", "lastLower", "J", false)
  | 9 => ("FerryChange", "search", "LFerryChange$Search;", true)
  | 10 => ("FerryChange", "crossingsTo", "[I", true)
  | 11 => ("FerryChange", "parts", "[I", true)
  | _ => ("FerryChange", "fewestBoats", "[I", true)
def tyX5 : Nat → FieldType := fun k => match k with
  | 0 => .array (.object "FerryChange$Row")
  | 1 => .array (.object "FerryChange$Row")
  | 2 => .object "FerryChange$Ferry"
  | 3 => .array (.object "FerryChange$Ferry")
  | 4 => .array .int
  | 5 => .int
  | 6 => .int
  | 7 => .long
  | 8 => .long
  | 9 => .object "FerryChange$Search"
  | 10 => .array .int
  | 11 => .array .int
  | _ => .array .int
theorem nmX5 : ∀ a, a < 13 → ∀ b, b < 13 → a ≠ b → (TX5 a).2.1 ≠ (TX5 b).2.1 := by decide +kernel
theorem tyX5_ok : ∀ k, k < 13 → parseFieldDescriptor (TX5 k).2.2.1 = some (tyX5 k) := by decide +kernel
def RX6 : String := "FerryChangeModel"
def TX6 : u_T := fun k => match k with
  | 0 => ("FerryChangeModel", "rowSize", "[I", true)
  | 1 => ("FerryChangeModel", "rows", "[I", true)
  | 2 => ("FerryChangeModel", "textSize", "[I", true)
  | 3 => ("FerryChangeModel", "texts", "[I", true)
  | 4 => ("FerryChangeModel", "many", "I", false)
  | 5 => ("FerryChangeModel", "kind", "[I", true)
  | 6 => ("FerryChangeModel", "st", "[I", true)
  | 7 => ("FerryChangeModel", "now", "[I", true)
  | 8 => ("FerryChangeModel", "book", "[I", true)
  | 9 => ("FerryChangeModel", "deeds", "I", false)
  | 10 => ("FerryChangeModel", "kept", "[I", true)
  | 11 => ("FerryChangeModel", "isKept", "[Z", true)
  | 12 => ("FerryChangeModel", "asked", "I", false)
  | 13 => ("FerryChangeModel", "upper", "J", false)
  | 14 => ("FerryChangeModel", "lower", "J", false)
  | 15 => ("FerryChangeModel", "finding", "I", false)
  | 16 => ("FerryChangeModel", "findings", "[I", true)
  | 17 => ("FerryChangeModel", "readMany", "I", false)
  | 18 => ("FerryChangeModel", "readKind", "[I", true)
  | 19 => ("FerryChangeModel", "read", "[I", true)
  | 20 => ("FerryChangeModel", "isMet", "[Z", true)
  | 21 => ("FerryChangeModel", "comes", "[I", true)
  | 22 => ("FerryChangeModel", "boatsOf", "[I", true)
  | _ => ("FerryChangeModel", "worth", "[I", true)
def tyX6 : Nat → FieldType := fun k => match k with
  | 0 => .array .int
  | 1 => .array .int
  | 2 => .array .int
  | 3 => .array .int
  | 4 => .int
  | 5 => .array .int
  | 6 => .array .int
  | 7 => .array .int
  | 8 => .array .int
  | 9 => .int
  | 10 => .array .int
  | 11 => .array .boolean
  | 12 => .int
  | 13 => .long
  | 14 => .long
  | 15 => .int
  | 16 => .array .int
  | 17 => .int
  | 18 => .array .int
  | 19 => .array .int
  | 20 => .array .boolean
  | 21 => .array .int
  | 22 => .array .int
  | _ => .array .int
theorem nmX6 : ∀ a, a < 24 → ∀ b, b < 24 → a ≠ b → (TX6 a).2.1 ≠ (TX6 b).2.1 := by decide +kernel
theorem tyX6_ok : ∀ k, k < 24 → parseFieldDescriptor (TX6 k).2.2.1 = some (tyX6 k) := by decide +kernel
abbrev vwCl : List vw_C := [(RX0, TX0, 10), (RX3, TX3, 2), (RX4, TX4, 6), (RX5, TX5, 13), (RX6, TX6, 24)]
def clR (a : Nat) : String := match a with
  | 0 => RX0
  | 1 => RX3
  | 2 => RX4
  | 3 => RX5
  | _ => RX6
def clT (a : Nat) : u_T := match a with
  | 0 => TX0
  | 1 => TX3
  | 2 => TX4
  | 3 => TX5
  | _ => TX6
def clTy (a : Nat) : Nat → FieldType := match a with
  | 0 => tyX0
  | 1 => tyX3
  | 2 => tyX4
  | 3 => tyX5
  | _ => tyX6
def clK (a : Nat) : Nat := match a with
  | 0 => 10
  | 1 => 2
  | 2 => 6
  | 3 => 13
  | _ => 24
/-- the kind of a field: 0 an int, 1 a long, 2 a reference -/
def clF (a b : Nat) : Nat := match clTy a b with
  | .int => 0
  | .long => 1
  | _ => 2
