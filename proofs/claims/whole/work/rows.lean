section
-- ===== PART A: goes FIRST, ahead of the names: the tables' words, and 'selects' of the private methods out of them =====
/-- a private method of a class that the tables say can be made, by its rows of tables_1 -/
def lw_okq (q : MethodName × Nat) : Prop := (q.1.cls ≠ "java/lang/invoke/MethodHandle" ∧ q.1.cls ≠ "java/lang/invoke/VarHandle") ∧ Cond.instantiable q.1.cls q.2 ∈ tables_1 ∧ Cond.privateMethod q.1 ∈ tables_1 ∧ Cond.instanceMethod q.1 ∈ tables_1
theorem lw_p0 : lw_okq (⟨"FerryChange", "answerFinding", "(I)I"⟩, 13) := ⟨⟨by decide +kernel, by decide +kernel⟩, List.mem_of_getElem? (i := 13) (by decide +kernel), List.mem_of_getElem? (i := 163) (by decide +kernel), List.mem_of_getElem? (i := 164) (by decide +kernel)⟩
theorem lw_p1 : lw_okq (⟨"FerryChange", "refusalOfPlace", "(LFerryChange$Row;I)I"⟩, 13) := ⟨⟨by decide +kernel, by decide +kernel⟩, List.mem_of_getElem? (i := 13) (by decide +kernel), List.mem_of_getElem? (i := 175) (by decide +kernel), List.mem_of_getElem? (i := 176) (by decide +kernel)⟩
theorem lw_p2 : lw_okq (⟨"FerryChange", "boardAll", "(LFerryChange$Row;)V"⟩, 13) := ⟨⟨by decide +kernel, by decide +kernel⟩, List.mem_of_getElem? (i := 13) (by decide +kernel), List.mem_of_getElem? (i := 234) (by decide +kernel), List.mem_of_getElem? (i := 235) (by decide +kernel)⟩
theorem lw_p3 : lw_okq (⟨"FerryChange", "boardOne", "(LFerryChange$Row;I)V"⟩, 13) := ⟨⟨by decide +kernel, by decide +kernel⟩, List.mem_of_getElem? (i := 13) (by decide +kernel), List.mem_of_getElem? (i := 242) (by decide +kernel), List.mem_of_getElem? (i := 243) (by decide +kernel)⟩
theorem lw_p4 : lw_okq (⟨"FerryChange", "isPassenger", "(I)Z"⟩, 13) := ⟨⟨by decide +kernel, by decide +kernel⟩, List.mem_of_getElem? (i := 13) (by decide +kernel), List.mem_of_getElem? (i := 254) (by decide +kernel), List.mem_of_getElem? (i := 255) (by decide +kernel)⟩
theorem lw_p5 : lw_okq (⟨"FerryChange", "knownOf", "(II)I"⟩, 13) := ⟨⟨by decide +kernel, by decide +kernel⟩, List.mem_of_getElem? (i := 13) (by decide +kernel), List.mem_of_getElem? (i := 258) (by decide +kernel), List.mem_of_getElem? (i := 259) (by decide +kernel)⟩
theorem lw_p6 : lw_okq (⟨"FerryChange$Ferry", "noteDeed", "(I)V"⟩, 10) := ⟨⟨by decide +kernel, by decide +kernel⟩, List.mem_of_getElem? (i := 23) (by decide +kernel), List.mem_of_getElem? (i := 329) (by decide +kernel), List.mem_of_getElem? (i := 330) (by decide +kernel)⟩
theorem lw_p7 : lw_okq (⟨"FerryChange", "refusalOfRow", "(LFerryChange$Row;IIII)I"⟩, 13) := ⟨⟨by decide +kernel, by decide +kernel⟩, List.mem_of_getElem? (i := 13) (by decide +kernel), List.mem_of_getElem? (i := 382) (by decide +kernel), List.mem_of_getElem? (i := 383) (by decide +kernel)⟩
theorem lw_p8 : lw_okq (⟨"FerryChange", "livesNewlyFound", "(II)I"⟩, 13) := ⟨⟨by decide +kernel, by decide +kernel⟩, List.mem_of_getElem? (i := 13) (by decide +kernel), List.mem_of_getElem? (i := 404) (by decide +kernel), List.mem_of_getElem? (i := 405) (by decide +kernel)⟩
theorem lw_p9 : lw_okq (⟨"FerryChange", "tell", "(JJ)V"⟩, 13) := ⟨⟨by decide +kernel, by decide +kernel⟩, List.mem_of_getElem? (i := 13) (by decide +kernel), List.mem_of_getElem? (i := 411) (by decide +kernel), List.mem_of_getElem? (i := 412) (by decide +kernel)⟩
theorem lw_p10 : lw_okq (⟨"FerryChange", "refusalOfPairs", "(LFerryChange$Row;)I"⟩, 13) := ⟨⟨by decide +kernel, by decide +kernel⟩, List.mem_of_getElem? (i := 13) (by decide +kernel), List.mem_of_getElem? (i := 426) (by decide +kernel), List.mem_of_getElem? (i := 427) (by decide +kernel)⟩
theorem lw_p11 : lw_okq (⟨"FerryChange", "kindsThatFit", "(ILFerryChange$Row;)I"⟩, 13) := ⟨⟨by decide +kernel, by decide +kernel⟩, List.mem_of_getElem? (i := 13) (by decide +kernel), List.mem_of_getElem? (i := 430) (by decide +kernel), List.mem_of_getElem? (i := 431) (by decide +kernel)⟩
theorem lw_p12 : lw_okq (⟨"FerryChange", "fits", "(IILFerryChange$Row;)Z"⟩, 13) := ⟨⟨by decide +kernel, by decide +kernel⟩, List.mem_of_getElem? (i := 13) (by decide +kernel), List.mem_of_getElem? (i := 434) (by decide +kernel), List.mem_of_getElem? (i := 435) (by decide +kernel)⟩
theorem lw_p13 : lw_okq (⟨"FerryChange", "greatestPart", "(III)I"⟩, 13) := ⟨⟨by decide +kernel, by decide +kernel⟩, List.mem_of_getElem? (i := 13) (by decide +kernel), List.mem_of_getElem? (i := 443) (by decide +kernel), List.mem_of_getElem? (i := 444) (by decide +kernel)⟩
theorem lw_p14 : lw_okq (⟨"FerryChange", "fewestBoatsOf", "(II)I"⟩, 13) := ⟨⟨by decide +kernel, by decide +kernel⟩, List.mem_of_getElem? (i := 13) (by decide +kernel), List.mem_of_getElem? (i := 462) (by decide +kernel), List.mem_of_getElem? (i := 463) (by decide +kernel)⟩
theorem lw_p15 : lw_okq (⟨"FerryChange", "isBoat", "(IIII)Z"⟩, 13) := ⟨⟨by decide +kernel, by decide +kernel⟩, List.mem_of_getElem? (i := 13) (by decide +kernel), List.mem_of_getElem? (i := 466) (by decide +kernel), List.mem_of_getElem? (i := 467) (by decide +kernel)⟩
def lw_privs_1 : List (MethodName × Nat) := [(⟨"FerryChange", "answerFinding", "(I)I"⟩, 13), (⟨"FerryChange", "refusalOfPlace", "(LFerryChange$Row;I)I"⟩, 13), (⟨"FerryChange", "boardAll", "(LFerryChange$Row;)V"⟩, 13), (⟨"FerryChange", "boardOne", "(LFerryChange$Row;I)V"⟩, 13), (⟨"FerryChange", "isPassenger", "(I)Z"⟩, 13), (⟨"FerryChange", "knownOf", "(II)I"⟩, 13), (⟨"FerryChange$Ferry", "noteDeed", "(I)V"⟩, 10), (⟨"FerryChange", "refusalOfRow", "(LFerryChange$Row;IIII)I"⟩, 13), (⟨"FerryChange", "livesNewlyFound", "(II)I"⟩, 13), (⟨"FerryChange", "tell", "(JJ)V"⟩, 13), (⟨"FerryChange", "refusalOfPairs", "(LFerryChange$Row;)I"⟩, 13), (⟨"FerryChange", "kindsThatFit", "(ILFerryChange$Row;)I"⟩, 13), (⟨"FerryChange", "fits", "(IILFerryChange$Row;)Z"⟩, 13), (⟨"FerryChange", "greatestPart", "(III)I"⟩, 13), (⟨"FerryChange", "fewestBoatsOf", "(II)I"⟩, 13), (⟨"FerryChange", "isBoat", "(IIII)Z"⟩, 13)]
theorem lw_r1 : ∀ q ∈ lw_privs_1, lw_okq q := List.forall_mem_cons.mpr ⟨lw_p0, List.forall_mem_cons.mpr ⟨lw_p1, List.forall_mem_cons.mpr ⟨lw_p2, List.forall_mem_cons.mpr ⟨lw_p3, List.forall_mem_cons.mpr ⟨lw_p4, List.forall_mem_cons.mpr ⟨lw_p5, List.forall_mem_cons.mpr ⟨lw_p6, List.forall_mem_cons.mpr ⟨lw_p7, List.forall_mem_cons.mpr ⟨lw_p8, List.forall_mem_cons.mpr ⟨lw_p9, List.forall_mem_cons.mpr ⟨lw_p10, List.forall_mem_cons.mpr ⟨lw_p11, List.forall_mem_cons.mpr ⟨lw_p12, List.forall_mem_cons.mpr ⟨lw_p13, List.forall_mem_cons.mpr ⟨lw_p14, List.forall_mem_cons.mpr ⟨lw_p15, fun _ h => absurd h List.not_mem_nil⟩⟩⟩⟩⟩⟩⟩⟩⟩⟩⟩⟩⟩⟩⟩⟩
theorem lw_p16 : lw_okq (⟨"FerryChange", "firstBoat", "(II)I"⟩, 13) := ⟨⟨by decide +kernel, by decide +kernel⟩, List.mem_of_getElem? (i := 13) (by decide +kernel), List.mem_of_getElem? (i := 477) (by decide +kernel), List.mem_of_getElem? (i := 478) (by decide +kernel)⟩
theorem lw_p17 : lw_okq (⟨"FerryChange", "answerChances", "(IIIZ)I"⟩, 13) := ⟨⟨by decide +kernel, by decide +kernel⟩, List.mem_of_getElem? (i := 13) (by decide +kernel), List.mem_of_getElem? (i := 504) (by decide +kernel), List.mem_of_getElem? (i := 505) (by decide +kernel)⟩
theorem lw_p18 : lw_okq (⟨"FerryChange", "tellChances", "(ILFerryChange$Row;IZ)V"⟩, 13) := ⟨⟨by decide +kernel, by decide +kernel⟩, List.mem_of_getElem? (i := 13) (by decide +kernel), List.mem_of_getElem? (i := 508) (by decide +kernel), List.mem_of_getElem? (i := 509) (by decide +kernel)⟩
theorem lw_p19 : lw_okq (⟨"FerryChange", "weighedEnd", "(ILFerryChange$Row;IIZ)J"⟩, 13) := ⟨⟨by decide +kernel, by decide +kernel⟩, List.mem_of_getElem? (i := 13) (by decide +kernel), List.mem_of_getElem? (i := 513) (by decide +kernel), List.mem_of_getElem? (i := 514) (by decide +kernel)⟩
theorem lw_p20 : lw_okq (⟨"FerryChange", "howManyKept", "()I"⟩, 13) := ⟨⟨by decide +kernel, by decide +kernel⟩, List.mem_of_getElem? (i := 13) (by decide +kernel), List.mem_of_getElem? (i := 561) (by decide +kernel), List.mem_of_getElem? (i := 562) (by decide +kernel)⟩
theorem lw_p21 : lw_okq (⟨"FerryChangeModel", "found", "(I)I"⟩, 24) := ⟨⟨by decide +kernel, by decide +kernel⟩, List.mem_of_getElem? (i := 585) (by decide +kernel), List.mem_of_getElem? (i := 675) (by decide +kernel), List.mem_of_getElem? (i := 676) (by decide +kernel)⟩
theorem lw_p22 : lw_okq (⟨"FerryChangeModel", "makesRow", "(II)V"⟩, 24) := ⟨⟨by decide +kernel, by decide +kernel⟩, List.mem_of_getElem? (i := 585) (by decide +kernel), List.mem_of_getElem? (i := 679) (by decide +kernel), List.mem_of_getElem? (i := 680) (by decide +kernel)⟩
theorem lw_p23 : lw_okq (⟨"FerryChangeModel", "placeOf", "(II)I"⟩, 24) := ⟨⟨by decide +kernel, by decide +kernel⟩, List.mem_of_getElem? (i := 585) (by decide +kernel), List.mem_of_getElem? (i := 687) (by decide +kernel), List.mem_of_getElem? (i := 688) (by decide +kernel)⟩
theorem lw_p24 : lw_okq (⟨"FerryChangeModel", "tells", "(II)I"⟩, 24) := ⟨⟨by decide +kernel, by decide +kernel⟩, List.mem_of_getElem? (i := 585) (by decide +kernel), List.mem_of_getElem? (i := 691) (by decide +kernel), List.mem_of_getElem? (i := 692) (by decide +kernel)⟩
theorem lw_p25 : lw_okq (⟨"FerryChangeModel", "reading", "(I)I"⟩, 24) := ⟨⟨by decide +kernel, by decide +kernel⟩, List.mem_of_getElem? (i := 585) (by decide +kernel), List.mem_of_getElem? (i := 726) (by decide +kernel), List.mem_of_getElem? (i := 727) (by decide +kernel)⟩
theorem lw_p26 : lw_okq (⟨"FerryChangeModel", "isOne", "(I)Z"⟩, 24) := ⟨⟨by decide +kernel, by decide +kernel⟩, List.mem_of_getElem? (i := 585) (by decide +kernel), List.mem_of_getElem? (i := 744) (by decide +kernel), List.mem_of_getElem? (i := 745) (by decide +kernel)⟩
theorem lw_p27 : lw_okq (⟨"FerryChangeModel", "passengerOf", "(II)I"⟩, 24) := ⟨⟨by decide +kernel, by decide +kernel⟩, List.mem_of_getElem? (i := 585) (by decide +kernel), List.mem_of_getElem? (i := 748) (by decide +kernel), List.mem_of_getElem? (i := 749) (by decide +kernel)⟩
theorem lw_p28 : lw_okq (⟨"FerryChangeModel", "weightOf", "(I)I"⟩, 24) := ⟨⟨by decide +kernel, by decide +kernel⟩, List.mem_of_getElem? (i := 585) (by decide +kernel), List.mem_of_getElem? (i := 752) (by decide +kernel), List.mem_of_getElem? (i := 753) (by decide +kernel)⟩
theorem lw_p29 : lw_okq (⟨"FerryChangeModel", "isA", "(II)Z"⟩, 24) := ⟨⟨by decide +kernel, by decide +kernel⟩, List.mem_of_getElem? (i := 585) (by decide +kernel), List.mem_of_getElem? (i := 759) (by decide +kernel), List.mem_of_getElem? (i := 760) (by decide +kernel)⟩
theorem lw_p30 : lw_okq (⟨"FerryChangeModel", "landsBy", "(I)I"⟩, 24) := ⟨⟨by decide +kernel, by decide +kernel⟩, List.mem_of_getElem? (i := 585) (by decide +kernel), List.mem_of_getElem? (i := 763) (by decide +kernel), List.mem_of_getElem? (i := 764) (by decide +kernel)⟩
theorem lw_p31 : lw_okq (⟨"FerryChangeModel", "mayLand", "([III)Z"⟩, 24) := ⟨⟨by decide +kernel, by decide +kernel⟩, List.mem_of_getElem? (i := 585) (by decide +kernel), List.mem_of_getElem? (i := 767) (by decide +kernel), List.mem_of_getElem? (i := 768) (by decide +kernel)⟩
def lw_privs_2 : List (MethodName × Nat) := [(⟨"FerryChange", "firstBoat", "(II)I"⟩, 13), (⟨"FerryChange", "answerChances", "(IIIZ)I"⟩, 13), (⟨"FerryChange", "tellChances", "(ILFerryChange$Row;IZ)V"⟩, 13), (⟨"FerryChange", "weighedEnd", "(ILFerryChange$Row;IIZ)J"⟩, 13), (⟨"FerryChange", "howManyKept", "()I"⟩, 13), (⟨"FerryChangeModel", "found", "(I)I"⟩, 24), (⟨"FerryChangeModel", "makesRow", "(II)V"⟩, 24), (⟨"FerryChangeModel", "placeOf", "(II)I"⟩, 24), (⟨"FerryChangeModel", "tells", "(II)I"⟩, 24), (⟨"FerryChangeModel", "reading", "(I)I"⟩, 24), (⟨"FerryChangeModel", "isOne", "(I)Z"⟩, 24), (⟨"FerryChangeModel", "passengerOf", "(II)I"⟩, 24), (⟨"FerryChangeModel", "weightOf", "(I)I"⟩, 24), (⟨"FerryChangeModel", "isA", "(II)Z"⟩, 24), (⟨"FerryChangeModel", "landsBy", "(I)I"⟩, 24), (⟨"FerryChangeModel", "mayLand", "([III)Z"⟩, 24)]
theorem lw_r2 : ∀ q ∈ lw_privs_2, lw_okq q := List.forall_mem_cons.mpr ⟨lw_p16, List.forall_mem_cons.mpr ⟨lw_p17, List.forall_mem_cons.mpr ⟨lw_p18, List.forall_mem_cons.mpr ⟨lw_p19, List.forall_mem_cons.mpr ⟨lw_p20, List.forall_mem_cons.mpr ⟨lw_p21, List.forall_mem_cons.mpr ⟨lw_p22, List.forall_mem_cons.mpr ⟨lw_p23, List.forall_mem_cons.mpr ⟨lw_p24, List.forall_mem_cons.mpr ⟨lw_p25, List.forall_mem_cons.mpr ⟨lw_p26, List.forall_mem_cons.mpr ⟨lw_p27, List.forall_mem_cons.mpr ⟨lw_p28, List.forall_mem_cons.mpr ⟨lw_p29, List.forall_mem_cons.mpr ⟨lw_p30, List.forall_mem_cons.mpr ⟨lw_p31, fun _ h => absurd h List.not_mem_nil⟩⟩⟩⟩⟩⟩⟩⟩⟩⟩⟩⟩⟩⟩⟩⟩
theorem lw_p32 : lw_okq (⟨"FerryChangeModel", "whichBy", "(II)I"⟩, 24) := ⟨⟨by decide +kernel, by decide +kernel⟩, List.mem_of_getElem? (i := 585) (by decide +kernel), List.mem_of_getElem? (i := 771) (by decide +kernel), List.mem_of_getElem? (i := 772) (by decide +kernel)⟩
theorem lw_p33 : lw_okq (⟨"FerryChangeModel", "changeBy", "(III)I"⟩, 24) := ⟨⟨by decide +kernel, by decide +kernel⟩, List.mem_of_getElem? (i := 585) (by decide +kernel), List.mem_of_getElem? (i := 775) (by decide +kernel), List.mem_of_getElem? (i := 776) (by decide +kernel)⟩
theorem lw_p34 : lw_okq (⟨"FerryChangeModel", "leastThing", "(I)I"⟩, 24) := ⟨⟨by decide +kernel, by decide +kernel⟩, List.mem_of_getElem? (i := 585) (by decide +kernel), List.mem_of_getElem? (i := 786) (by decide +kernel), List.mem_of_getElem? (i := 787) (by decide +kernel)⟩
theorem lw_p35 : lw_okq (⟨"FerryChangeModel", "besides", "(I)I"⟩, 24) := ⟨⟨by decide +kernel, by decide +kernel⟩, List.mem_of_getElem? (i := 585) (by decide +kernel), List.mem_of_getElem? (i := 790) (by decide +kernel), List.mem_of_getElem? (i := 791) (by decide +kernel)⟩
theorem lw_p36 : lw_okq (⟨"FerryChangeModel", "notes", "()V"⟩, 24) := ⟨⟨by decide +kernel, by decide +kernel⟩, List.mem_of_getElem? (i := 585) (by decide +kernel), List.mem_of_getElem? (i := 798) (by decide +kernel), List.mem_of_getElem? (i := 799) (by decide +kernel)⟩
theorem lw_p37 : lw_okq (⟨"FerryChangeModel", "crosses", "([III)Z"⟩, 24) := ⟨⟨by decide +kernel, by decide +kernel⟩, List.mem_of_getElem? (i := 585) (by decide +kernel), List.mem_of_getElem? (i := 802) (by decide +kernel), List.mem_of_getElem? (i := 803) (by decide +kernel)⟩
theorem lw_p38 : lw_okq (⟨"FerryChangeModel", "rowFound", "(IIIII)I"⟩, 24) := ⟨⟨by decide +kernel, by decide +kernel⟩, List.mem_of_getElem? (i := 585) (by decide +kernel), List.mem_of_getElem? (i := 830) (by decide +kernel), List.mem_of_getElem? (i := 831) (by decide +kernel)⟩
theorem lw_p39 : lw_okq (⟨"FerryChangeModel", "asItIs", "()V"⟩, 24) := ⟨⟨by decide +kernel, by decide +kernel⟩, List.mem_of_getElem? (i := 585) (by decide +kernel), List.mem_of_getElem? (i := 834) (by decide +kernel), List.mem_of_getElem? (i := 835) (by decide +kernel)⟩
theorem lw_p40 : lw_okq (⟨"FerryChangeModel", "crossesBy", "(III)V"⟩, 24) := ⟨⟨by decide +kernel, by decide +kernel⟩, List.mem_of_getElem? (i := 585) (by decide +kernel), List.mem_of_getElem? (i := 848) (by decide +kernel), List.mem_of_getElem? (i := 849) (by decide +kernel)⟩
theorem lw_p41 : lw_okq (⟨"FerryChangeModel", "isLife", "([III)Z"⟩, 24) := ⟨⟨by decide +kernel, by decide +kernel⟩, List.mem_of_getElem? (i := 585) (by decide +kernel), List.mem_of_getElem? (i := 852) (by decide +kernel), List.mem_of_getElem? (i := 853) (by decide +kernel)⟩
theorem lw_p42 : lw_okq (⟨"FerryChangeModel", "tellsPart", "(JJ)I"⟩, 24) := ⟨⟨by decide +kernel, by decide +kernel⟩, List.mem_of_getElem? (i := 585) (by decide +kernel), List.mem_of_getElem? (i := 860) (by decide +kernel), List.mem_of_getElem? (i := 861) (by decide +kernel)⟩
theorem lw_p43 : lw_okq (⟨"FerryChangeModel", "pairsFound", "(I)I"⟩, 24) := ⟨⟨by decide +kernel, by decide +kernel⟩, List.mem_of_getElem? (i := 585) (by decide +kernel), List.mem_of_getElem? (i := 872) (by decide +kernel), List.mem_of_getElem? (i := 873) (by decide +kernel)⟩
theorem lw_p44 : lw_okq (⟨"FerryChangeModel", "kindsOf", "(II)I"⟩, 24) := ⟨⟨by decide +kernel, by decide +kernel⟩, List.mem_of_getElem? (i := 585) (by decide +kernel), List.mem_of_getElem? (i := 876) (by decide +kernel), List.mem_of_getElem? (i := 877) (by decide +kernel)⟩
theorem lw_p45 : lw_okq (⟨"FerryChangeModel", "greatest", "(III)I"⟩, 24) := ⟨⟨by decide +kernel, by decide +kernel⟩, List.mem_of_getElem? (i := 585) (by decide +kernel), List.mem_of_getElem? (i := 884) (by decide +kernel), List.mem_of_getElem? (i := 885) (by decide +kernel)⟩
theorem lw_p46 : lw_okq (⟨"FerryChangeModel", "weightsOf", "(I)I"⟩, 24) := ⟨⟨by decide +kernel, by decide +kernel⟩, List.mem_of_getElem? (i := 585) (by decide +kernel), List.mem_of_getElem? (i := 892) (by decide +kernel), List.mem_of_getElem? (i := 893) (by decide +kernel)⟩
theorem lw_p47 : lw_okq (⟨"FerryChangeModel", "failing", "(IIIZ)I"⟩, 24) := ⟨⟨by decide +kernel, by decide +kernel⟩, List.mem_of_getElem? (i := 585) (by decide +kernel), List.mem_of_getElem? (i := 916) (by decide +kernel), List.mem_of_getElem? (i := 917) (by decide +kernel)⟩
def lw_privs_3 : List (MethodName × Nat) := [(⟨"FerryChangeModel", "whichBy", "(II)I"⟩, 24), (⟨"FerryChangeModel", "changeBy", "(III)I"⟩, 24), (⟨"FerryChangeModel", "leastThing", "(I)I"⟩, 24), (⟨"FerryChangeModel", "besides", "(I)I"⟩, 24), (⟨"FerryChangeModel", "notes", "()V"⟩, 24), (⟨"FerryChangeModel", "crosses", "([III)Z"⟩, 24), (⟨"FerryChangeModel", "rowFound", "(IIIII)I"⟩, 24), (⟨"FerryChangeModel", "asItIs", "()V"⟩, 24), (⟨"FerryChangeModel", "crossesBy", "(III)V"⟩, 24), (⟨"FerryChangeModel", "isLife", "([III)Z"⟩, 24), (⟨"FerryChangeModel", "tellsPart", "(JJ)I"⟩, 24), (⟨"FerryChangeModel", "pairsFound", "(I)I"⟩, 24), (⟨"FerryChangeModel", "kindsOf", "(II)I"⟩, 24), (⟨"FerryChangeModel", "greatest", "(III)I"⟩, 24), (⟨"FerryChangeModel", "weightsOf", "(I)I"⟩, 24), (⟨"FerryChangeModel", "failing", "(IIIZ)I"⟩, 24)]
theorem lw_r3 : ∀ q ∈ lw_privs_3, lw_okq q := List.forall_mem_cons.mpr ⟨lw_p32, List.forall_mem_cons.mpr ⟨lw_p33, List.forall_mem_cons.mpr ⟨lw_p34, List.forall_mem_cons.mpr ⟨lw_p35, List.forall_mem_cons.mpr ⟨lw_p36, List.forall_mem_cons.mpr ⟨lw_p37, List.forall_mem_cons.mpr ⟨lw_p38, List.forall_mem_cons.mpr ⟨lw_p39, List.forall_mem_cons.mpr ⟨lw_p40, List.forall_mem_cons.mpr ⟨lw_p41, List.forall_mem_cons.mpr ⟨lw_p42, List.forall_mem_cons.mpr ⟨lw_p43, List.forall_mem_cons.mpr ⟨lw_p44, List.forall_mem_cons.mpr ⟨lw_p45, List.forall_mem_cons.mpr ⟨lw_p46, List.forall_mem_cons.mpr ⟨lw_p47, fun _ h => absurd h List.not_mem_nil⟩⟩⟩⟩⟩⟩⟩⟩⟩⟩⟩⟩⟩⟩⟩⟩
theorem lw_p48 : lw_okq (⟨"FerryChangeModel", "across", "()I"⟩, 24) := ⟨⟨by decide +kernel, by decide +kernel⟩, List.mem_of_getElem? (i := 585) (by decide +kernel), List.mem_of_getElem? (i := 931) (by decide +kernel), List.mem_of_getElem? (i := 932) (by decide +kernel)⟩
theorem lw_p49 : lw_okq (⟨"FerryChangeModel", "those", "(I)I"⟩, 24) := ⟨⟨by decide +kernel, by decide +kernel⟩, List.mem_of_getElem? (i := 585) (by decide +kernel), List.mem_of_getElem? (i := 951) (by decide +kernel), List.mem_of_getElem? (i := 952) (by decide +kernel)⟩
theorem lw_p50 : lw_okq (⟨"FerryChangeModel", "keptMany", "()I"⟩, 24) := ⟨⟨by decide +kernel, by decide +kernel⟩, List.mem_of_getElem? (i := 585) (by decide +kernel), List.mem_of_getElem? (i := 958) (by decide +kernel), List.mem_of_getElem? (i := 959) (by decide +kernel)⟩
def lw_privs_4 : List (MethodName × Nat) := [(⟨"FerryChangeModel", "across", "()I"⟩, 24), (⟨"FerryChangeModel", "those", "(I)I"⟩, 24), (⟨"FerryChangeModel", "keptMany", "()I"⟩, 24)]
theorem lw_r4 : ∀ q ∈ lw_privs_4, lw_okq q := List.forall_mem_cons.mpr ⟨lw_p48, List.forall_mem_cons.mpr ⟨lw_p49, List.forall_mem_cons.mpr ⟨lw_p50, fun _ h => absurd h List.not_mem_nil⟩⟩⟩
def lw_privs : List (MethodName × Nat) := lw_privs_1 ++ (lw_privs_2 ++ (lw_privs_3 ++ (lw_privs_4)))
def lw_tbl : List Cond := k2_sels lw_privs ++ tables_1
theorem lw_privs_ok : ∀ q ∈ lw_privs, lw_okq q := by
  show ∀ q ∈ lw_privs_1 ++ (lw_privs_2 ++ (lw_privs_3 ++ (lw_privs_4))), lw_okq q
  exact List.forall_mem_append.mpr ⟨lw_r1, List.forall_mem_append.mpr ⟨lw_r2, List.forall_mem_append.mpr ⟨lw_r3, lw_r4⟩⟩⟩

-- classes and fields (the lines that NAMES.whole prints)
def RX0 : String := "FerryChange$Ferry"
def TX0 : u_T := fun k => match k with
  | 0 => ("FerryChange$Ferry", "kind", "[I", true)
  | 1 => ("FerryChange$Ferry", "life", "[I", true)
  | 2 => ("FerryChange$Ferry", "bank", "[I", true)
  | 3 => ("FerryChange$Ferry", "deedBy", "[I", true)
  | 4 => ("FerryChange$Ferry", "lifeAhead", "[I", true)
  | 5 => ("FerryChange$Ferry", "bankAhead", "[I", true)
  | 6 => ("FerryChange$Ferry", "crossingAhead", "[I", true)
  | 7 => ("FerryChange$Ferry", "size", "I", false)
  | 8 => ("FerryChange$Ferry", "crossing", "I", false)
  | _ => ("FerryChange$Ferry", "deeds", "I", false)
def tyX0 : Nat → FieldType := fun k => match k with
  | 0 => .array .int
  | 1 => .array .int
  | 2 => .array .int
  | 3 => .array .int
  | 4 => .array .int
  | 5 => .array .int
  | 6 => .array .int
  | 7 => .int
  | 8 => .int
  | _ => .int
theorem nmX0 : ∀ a, a < 10 → ∀ b, b < 10 → a ≠ b → (TX0 a).2.1 ≠ (TX0 b).2.1 := by decide +kernel
theorem tyX0_ok : ∀ k, k < 10 → parseFieldDescriptor (TX0 k).2.2.1 = some (tyX0 k) := by decide +kernel
def RX3 : String := "FerryChange$Row"
def TX3 : u_T := fun k => match k with
  | 0 => ("FerryChange$Row", "places", "[I", true)
  | _ => ("FerryChange$Row", "size", "I", false)
def tyX3 : Nat → FieldType := fun k => match k with
  | 0 => .array .int
  | _ => .int
theorem nmX3 : ∀ a, a < 2 → ∀ b, b < 2 → a ≠ b → (TX3 a).2.1 ≠ (TX3 b).2.1 := by decide +kernel
theorem tyX3_ok : ∀ k, k < 2 → parseFieldDescriptor (TX3 k).2.2.1 = some (tyX3 k) := by decide +kernel
def RX4 : String := "FerryChange$Search"
def TX4 : u_T := fun k => match k with
  | 0 => ("FerryChange$Search", "path", "[I", true)
  | 1 => ("FerryChange$Search", "wanted", "[I", true)
  | 2 => ("FerryChange$Search", "kind", "I", false)
  | 3 => ("FerryChange$Search", "number", "I", false)
  | 4 => ("FerryChange$Search", "crossings", "I", false)
  | _ => ("FerryChange$Search", "bank", "I", false)
def tyX4 : Nat → FieldType := fun k => match k with
  | 0 => .array .int
  | 1 => .array .int
  | 2 => .int
  | 3 => .int
  | 4 => .int
  | _ => .int
theorem nmX4 : ∀ a, a < 6 → ∀ b, b < 6 → a ≠ b → (TX4 a).2.1 ≠ (TX4 b).2.1 := by decide +kernel
theorem tyX4_ok : ∀ k, k < 6 → parseFieldDescriptor (TX4 k).2.2.1 = some (tyX4 k) := by decide +kernel
def RX5 : String := "FerryChange"
def TX5 : u_T := fun k => match k with
  | 0 => ("FerryChange", "rows", "[LFerryChange$Row;", true)
  | 1 => ("FerryChange", "texts", "[LFerryChange$Row;", true)
  | 2 => ("FerryChange", "ferry", "LFerryChange$Ferry;", true)
  | 3 => ("FerryChange", "kept", "[LFerryChange$Ferry;", true)
  | 4 => ("FerryChange", "findingCounts", "[I", true)
  | 5 => ("FerryChange", "lastFinding", "I", false)
  | 6 => ("FerryChange", "lastAsked", "I", false)
  | 7 => ("FerryChange", "lastUpper", "J", false)
  | 8 => ("FerryChange", "lastLower", "J", false)
  | 9 => ("FerryChange", "search", "LFerryChange$Search;", true)
  | 10 => ("FerryChange", "crossingsTo", "[I", true)
  | 11 => ("FerryChange", "parts", "[I", true)
  | _ => ("FerryChange", "fewestBoats", "[I", true)
def tyX5 : Nat → FieldType := fun k => match k with
  | 0 => .array (.object "FerryChange$Row")
  | 1 => .array (.object "FerryChange$Row")
  | 2 => .object "FerryChange$Ferry"
  | 3 => .array (.object "FerryChange$Ferry")
  | 4 => .array .int
  | 5 => .int
  | 6 => .int
  | 7 => .long
  | 8 => .long
  | 9 => .object "FerryChange$Search"
  | 10 => .array .int
  | 11 => .array .int
  | _ => .array .int
theorem nmX5 : ∀ a, a < 13 → ∀ b, b < 13 → a ≠ b → (TX5 a).2.1 ≠ (TX5 b).2.1 := by decide +kernel
theorem tyX5_ok : ∀ k, k < 13 → parseFieldDescriptor (TX5 k).2.2.1 = some (tyX5 k) := by decide +kernel
def RX6 : String := "FerryChangeModel"
def TX6 : u_T := fun k => match k with
  | 0 => ("FerryChangeModel", "rowSize", "[I", true)
  | 1 => ("FerryChangeModel", "rows", "[I", true)
  | 2 => ("FerryChangeModel", "textSize", "[I", true)
  | 3 => ("FerryChangeModel", "texts", "[I", true)
  | 4 => ("FerryChangeModel", "many", "I", false)
  | 5 => ("FerryChangeModel", "kind", "[I", true)
  | 6 => ("FerryChangeModel", "st", "[I", true)
  | 7 => ("FerryChangeModel", "now", "[I", true)
  | 8 => ("FerryChangeModel", "book", "[I", true)
  | 9 => ("FerryChangeModel", "deeds", "I", false)
  | 10 => ("FerryChangeModel", "kept", "[I", true)
  | 11 => ("FerryChangeModel", "isKept", "[Z", true)
  | 12 => ("FerryChangeModel", "asked", "I", false)
  | 13 => ("FerryChangeModel", "upper", "J", false)
  | 14 => ("FerryChangeModel", "lower", "J", false)
  | 15 => ("FerryChangeModel", "finding", "I", false)
  | 16 => ("FerryChangeModel", "findings", "[I", true)
  | 17 => ("FerryChangeModel", "readMany", "I", false)
  | 18 => ("FerryChangeModel", "readKind", "[I", true)
  | 19 => ("FerryChangeModel", "read", "[I", true)
  | 20 => ("FerryChangeModel", "isMet", "[Z", true)
  | 21 => ("FerryChangeModel", "comes", "[I", true)
  | 22 => ("FerryChangeModel", "boatsOf", "[I", true)
  | _ => ("FerryChangeModel", "worth", "[I", true)
def tyX6 : Nat → FieldType := fun k => match k with
  | 0 => .array .int
  | 1 => .array .int
  | 2 => .array .int
  | 3 => .array .int
  | 4 => .int
  | 5 => .array .int
  | 6 => .array .int
  | 7 => .array .int
  | 8 => .array .int
  | 9 => .int
  | 10 => .array .int
  | 11 => .array .boolean
  | 12 => .int
  | 13 => .long
  | 14 => .long
  | 15 => .int
  | 16 => .array .int
  | 17 => .int
  | 18 => .array .int
  | 19 => .array .int
  | 20 => .array .boolean
  | 21 => .array .int
  | 22 => .array .int
  | _ => .array .int
theorem nmX6 : ∀ a, a < 24 → ∀ b, b < 24 → a ≠ b → (TX6 a).2.1 ≠ (TX6 b).2.1 := by decide +kernel
theorem tyX6_ok : ∀ k, k < 24 → parseFieldDescriptor (TX6 k).2.2.1 = some (tyX6 k) := by decide +kernel
abbrev vwCl : List vw_C := [(RX0, TX0, 10), (RX3, TX3, 2), (RX4, TX4, 6), (RX5, TX5, 13), (RX6, TX6, 24)]
def clR (a : Nat) : String := match a with
  | 0 => RX0
  | 1 => RX3
  | 2 => RX4
  | 3 => RX5
  | _ => RX6
def clT (a : Nat) : u_T := match a with
  | 0 => TX0
  | 1 => TX3
  | 2 => TX4
  | 3 => TX5
  | _ => TX6
def clTy (a : Nat) : Nat → FieldType := match a with
  | 0 => tyX0
  | 1 => tyX3
  | 2 => tyX4
  | 3 => tyX5
  | _ => tyX6
def clK (a : Nat) : Nat := match a with
  | 0 => 10
  | 1 => 2
  | 2 => 6
  | 3 => 13
  | _ => 24
/-- the kind of a field: 0 an int, 1 a long, 2 a reference -/
def clF (a b : Nat) : Nat := match clTy a b with
  | .int => 0
  | .long => 1
  | _ => 2
end
section
abbrev INS : Type := Instr × Nat × Nat × Nat × Int
abbrev MI : Type := MethodName × ByteArray × Nat × Option FieldType × Nat × Nat × Nat
def nth {α : Type} : List α → Nat → α → α
  | [], _, d => d
  | a :: _, 0, _ => a
  | _ :: t, n + 1, d => nth t n d
abbrev m_W_law : Nat := 0
abbrev m_F_init : Nat := 1
abbrev m_F_isEmpty : Nat := 2
abbrev m_F_clear : Nat := 3
abbrev m_F_board : Nat := 4
abbrev m_F_takeFrom : Nat := 5
abbrev m_F_hasRoomFor : Nat := 6
abbrev m_F_noteDeed : Nat := 7
abbrev m_F_takeOver : Nat := 8
abbrev m_F_setByHand : Nat := 9
abbrev m_F_doByLot : Nat := 10
abbrev m_F_undoFrom : Nat := 11
abbrev m_F_onBankOne : Nat := 12
abbrev m_F_othersOnBankOf : Nat := 13
abbrev m_F_howManyOf : Nat := 14
abbrev m_F_setCount : Nat := 15
abbrev m_F_weightOfSet : Nat := 16
abbrev m_F_heaviest : Nat := 17
abbrev m_K_ofLetter : Nat := 18
abbrev m_K_isOf : Nat := 19
abbrev m_K_stepOf : Nat := 20
abbrev m_K_thingOf : Nat := 21
abbrev m_K_changeOf : Nat := 22
abbrev m_K_landing : Nat := 23
abbrev m_K_lifeThen : Nat := 24
abbrev m_K_landings : Nat := 25
abbrev m_K_weightOf : Nat := 26
abbrev m_L_worthOf : Nat := 27
abbrev m_L_thing : Nat := 28
abbrev m_L_together : Nat := 29
abbrev m_L_leastThing : Nat := 30
abbrev m_L_isAs : Nat := 31
abbrev m_R_init : Nat := 32
abbrev m_R_isMissing : Nat := 33
abbrev m_R_hasPlaces : Nat := 34
abbrev m_R_renew : Nat := 35
abbrev m_R_digestInto : Nat := 36
abbrev m_S_init : Nat := 37
abbrev m_C_init : Nat := 38
abbrev m_C_row : Nat := 39
abbrev m_C_lay : Nat := 40
abbrev m_C_at : Nat := 41
abbrev m_C_tear : Nat := 42
abbrev m_C_copy : Nat := 43
abbrev m_C_mean : Nat := 44
abbrev m_C_text : Nat := 45
abbrev m_C_put : Nat := 46
abbrev m_C_fault : Nat := 47
abbrev m_C_ferry : Nat := 48
abbrev m_C_passenger : Nat := 49
abbrev m_C_mark : Nat := 50
abbrev m_C_cross : Nat := 51
abbrev m_C_set : Nat := 52
abbrev m_C_undo : Nat := 53
abbrev m_C_keep : Nat := 54
abbrev m_C_on : Nat := 55
abbrev m_C_changes : Nat := 56
abbrev m_C_run : Nat := 57
abbrev m_C_fewest : Nat := 58
abbrev m_C_lives : Nat := 59
abbrev m_C_declared : Nat := 60
abbrev m_C_kinds : Nat := 61
abbrev m_C_next : Nat := 62
abbrev m_C_boats : Nat := 63
abbrev m_C_sets : Nat := 64
abbrev m_C_sure : Nat := 65
abbrev m_C_alike : Nat := 66
abbrev m_C_duel : Nat := 67
abbrev m_C_odds : Nat := 68
abbrev m_C_mid : Nat := 69
abbrev m_C_lots : Nat := 70
abbrev m_C_asked : Nat := 71
abbrev m_C_upper : Nat := 72
abbrev m_C_lower : Nat := 73
abbrev m_C_count : Nat := 74
abbrev m_C_finding : Nat := 75
abbrev m_C_findings : Nat := 76
abbrev m_C_digest : Nat := 77
abbrev m_C_isRow : Nat := 78
abbrev m_C_isText : Nat := 79
abbrev m_C_isPlaceKept : Nat := 80
abbrev m_C_isDeclaration : Nat := 81
abbrev m_C_isPassenger : Nat := 82
abbrev m_C_answerFinding : Nat := 83
abbrev m_C_refusalOfPlace : Nat := 84
abbrev m_C_refusalOfRow : Nat := 85
abbrev m_C_refusalOfPairs : Nat := 86
abbrev m_C_placeOfFault : Nat := 87
abbrev m_C_isSignOfItem : Nat := 88
abbrev m_C_boardAll : Nat := 89
abbrev m_C_boardOne : Nat := 90
abbrev m_C_knownOf : Nat := 91
abbrev m_C_howManyThere : Nat := 92
abbrev m_C_howManyKept : Nat := 93
abbrev m_C_tell : Nat := 94
abbrev m_C_greatestShared : Nat := 95
abbrev m_C_isFound : Nat := 96
abbrev m_C_livesNewlyFound : Nat := 97
abbrev m_C_mostTogether : Nat := 98
abbrev m_C_kindsThatFit : Nat := 99
abbrev m_C_fits : Nat := 100
abbrev m_C_greatestPart : Nat := 101
abbrev m_C_fewestBoatsOf : Nat := 102
abbrev m_C_firstBoat : Nat := 103
abbrev m_C_isBoat : Nat := 104
abbrev m_C_answerChances : Nat := 105
abbrev m_C_tellChances : Nat := 106
abbrev m_C_weighedEnd : Nat := 107
abbrev m_D_init : Nat := 108
abbrev m_D_in : Nat := 109
abbrev m_D_bits : Nat := 110
abbrev m_D_bring : Nat := 111
abbrev m_D_found : Nat := 112
abbrev m_D_tells : Nat := 113
abbrev m_D_isOne : Nat := 114
abbrev m_D_isRow : Nat := 115
abbrev m_D_isText : Nat := 116
abbrev m_D_makesRow : Nat := 117
abbrev m_D_row : Nat := 118
abbrev m_D_placeOf : Nat := 119
abbrev m_D_lay : Nat := 120
abbrev m_D_at : Nat := 121
abbrev m_D_tear : Nat := 122
abbrev m_D_copy : Nat := 123
abbrev m_D_mean : Nat := 124
abbrev m_D_text : Nat := 125
abbrev m_D_put : Nat := 126
abbrev m_D_kindBy : Nat := 127
abbrev m_D_reading : Nat := 128
abbrev m_D_fault : Nat := 129
abbrev m_D_ferry : Nat := 130
abbrev m_D_whichBy : Nat := 131
abbrev m_D_changeBy : Nat := 132
abbrev m_D_mayLand : Nat := 133
abbrev m_D_crosses : Nat := 134
abbrev m_D_togetherOf : Nat := 135
abbrev m_D_lifeOf : Nat := 136
abbrev m_D_isA : Nat := 137
abbrev m_D_weightOf : Nat := 138
abbrev m_D_landsBy : Nat := 139
abbrev m_D_passengerOf : Nat := 140
abbrev m_D_passenger : Nat := 141
abbrev m_D_besides : Nat := 142
abbrev m_D_leastThing : Nat := 143
abbrev m_D_mark : Nat := 144
abbrev m_D_notes : Nat := 145
abbrev m_D_cross : Nat := 146
abbrev m_D_set : Nat := 147
abbrev m_D_undo : Nat := 148
abbrev m_D_keep : Nat := 149
abbrev m_D_on : Nat := 150
abbrev m_D_asItIs : Nat := 151
abbrev m_D_changes : Nat := 152
abbrev m_D_rowFound : Nat := 153
abbrev m_D_run : Nat := 154
abbrev m_D_isLife : Nat := 155
abbrev m_D_codesOf : Nat := 156
abbrev m_D_crossesBy : Nat := 157
abbrev m_D_fewest : Nat := 158
abbrev m_D_tellsPart : Nat := 159
abbrev m_D_lives : Nat := 160
abbrev m_D_declared : Nat := 161
abbrev m_D_pairsFound : Nat := 162
abbrev m_D_kindsOf : Nat := 163
abbrev m_D_kinds : Nat := 164
abbrev m_D_greatest : Nat := 165
abbrev m_D_next : Nat := 166
abbrev m_D_weightsOf : Nat := 167
abbrev m_D_boats : Nat := 168
abbrev m_D_sets : Nat := 169
abbrev m_D_sure : Nat := 170
abbrev m_D_alike : Nat := 171
abbrev m_D_duel : Nat := 172
abbrev m_D_failing : Nat := 173
abbrev m_D_odds : Nat := 174
abbrev m_D_mid : Nat := 175
abbrev m_D_across : Nat := 176
abbrev m_D_lots : Nat := 177
abbrev m_D_asked : Nat := 178
abbrev m_D_upper : Nat := 179
abbrev m_D_lower : Nat := 180
abbrev m_D_there : Nat := 181
abbrev m_D_keptMany : Nat := 182
abbrev m_D_those : Nat := 183
abbrev m_D_count : Nat := 184
abbrev m_D_finding : Nat := 185
abbrev m_D_findings : Nat := 186
abbrev m_D_digest : Nat := 187
abbrev m_JI_bitCount : Nat := 188
abbrev m_JA_fill : Nat := 189
noncomputable def tb_0_0 : List (List (Option INS)) := [[some (.new 7, 3, 3, 63, 0), none, none, some (.dup, 1, 0, 0, 0), some (.invokespecial 9, 3, 38, 65, 0), none, none, some (.astore_n 1, 1, 0, 0, 0), some (.new 10, 3, 4, 635, 0), none, none, some (.dup, 1, 0, 0, 0), some (.invokespecial 12, 3, 108, 637, 0), none, none, some (.astore_n 2, 1, 0, 0, 0)],
  [some (.iconst 0, 1, 0, 0, 0), some (.istore_n 3, 1, 0, 0, 0), some (.iload_n 3, 1, 0, 0, 0), some (.aload_n 0, 1, 0, 0, 0), some (.arraylength, 1, 0, 0, 0), some (.bipush 6, 2, 0, 0, 0), none, some (.isub, 1, 0, 0, 0), some (.if_icmp .gt 1376, 3, 0, 0, 0), none, none, some (.aload_n 0, 1, 0, 0, 0), some (.iload_n 3, 1, 0, 0, 0), some (.iaload, 1, 0, 0, 0), some (.bipush 63, 2, 0, 0, 0), none],
  [some (.iand, 1, 0, 0, 0), some (.tableswitch 1361 0 38 #[171, 204, 247, 280, 303, 366, 389, 422, 465, 488, 511, 544, 577, 610, 653, 676, 699, 722, 765, 798, 851, 884, 917, 950, 983, 1006, 1029, 1052, 1085, 1128, 1171, 1214, 1247, 1260, 1274, 1288, 1311, 1324, 1347], 171, 0, 0, 0), none, none, none, none, none, none, none, none, none, none, none, none, none, none],
  [none, none, none, none, none, none, none, none, none, none, none, none, none, none, none, none]]
noncomputable def tb_0_1 : List (List (Option INS)) := [[none, none, none, none, none, none, none, none, none, none, none, none, none, none, none, none],
  [none, none, none, none, none, none, none, none, none, none, none, none, none, none, none, none],
  [none, none, none, none, none, none, none, none, none, none, none, none, none, none, none, none],
  [none, none, none, none, none, none, none, none, none, none, none, none, none, none, none, none]]
noncomputable def tb_0_2 : List (List (Option INS)) := [[none, none, none, none, none, none, none, none, none, none, none, none, none, none, none, none],
  [none, none, none, none, none, none, none, none, none, none, none, none, none, none, none, none],
  [none, none, none, none, none, none, none, none, none, none, none, none, none, none, none, none],
  [none, none, none, none, none, none, none, none, none, none, none, none, none, none, none, none]]
noncomputable def tb_0_3 : List (List (Option INS)) := [[none, none, none, none, none, none, none, none, none, none, none, none, some (.aload_n 1, 1, 0, 0, 0), some (.aload_n 0, 1, 0, 0, 0), some (.iload_n 3, 1, 0, 0, 0), some (.iconst 1, 1, 0, 0, 0)],
  [some (.iadd, 1, 0, 0, 0), some (.iaload, 1, 0, 0, 0), some (.aload_n 0, 1, 0, 0, 0), some (.iload_n 3, 1, 0, 0, 0), some (.iconst 2, 1, 0, 0, 0), some (.iadd, 1, 0, 0, 0), some (.iaload, 1, 0, 0, 0), some (.invokevirtual 13, 3, 39, 206, 0), none, none, some (.aload_n 2, 1, 0, 0, 0), some (.aload_n 0, 1, 0, 0, 0), some (.iload_n 3, 1, 0, 0, 0), some (.iconst 1, 1, 0, 0, 0), some (.iadd, 1, 0, 0, 0), some (.iaload, 1, 0, 0, 0)],
  [some (.aload_n 0, 1, 0, 0, 0), some (.iload_n 3, 1, 0, 0, 0), some (.iconst 2, 1, 0, 0, 0), some (.iadd, 1, 0, 0, 0), some (.iaload, 1, 0, 0, 0), some (.invokevirtual 17, 3, 118, 715, 0), none, none, some (.if_icmp .eq 1162, 3, 0, 0, 0), none, none, some (.iconst 0, 1, 0, 0, 0), some (.ireturn, 1, 1, 0, 0), some (.aload_n 1, 1, 0, 0, 0), some (.aload_n 0, 1, 0, 0, 0), some (.iload_n 3, 1, 0, 0, 0)],
  [some (.iconst 1, 1, 0, 0, 0), some (.iadd, 1, 0, 0, 0), some (.iaload, 1, 0, 0, 0), some (.aload_n 0, 1, 0, 0, 0), some (.iload_n 3, 1, 0, 0, 0), some (.iconst 2, 1, 0, 0, 0), some (.iadd, 1, 0, 0, 0), some (.iaload, 1, 0, 0, 0), some (.aload_n 0, 1, 0, 0, 0), some (.iload_n 3, 1, 0, 0, 0), some (.iconst 3, 1, 0, 0, 0), some (.iadd, 1, 0, 0, 0), some (.iaload, 1, 0, 0, 0), some (.invokevirtual 18, 3, 40, 221, 0), none, none]]
noncomputable def tb_0_4 : List (List (Option INS)) := [[some (.aload_n 2, 1, 0, 0, 0), some (.aload_n 0, 1, 0, 0, 0), some (.iload_n 3, 1, 0, 0, 0), some (.iconst 1, 1, 0, 0, 0), some (.iadd, 1, 0, 0, 0), some (.iaload, 1, 0, 0, 0), some (.aload_n 0, 1, 0, 0, 0), some (.iload_n 3, 1, 0, 0, 0), some (.iconst 2, 1, 0, 0, 0), some (.iadd, 1, 0, 0, 0), some (.iaload, 1, 0, 0, 0), some (.aload_n 0, 1, 0, 0, 0), some (.iload_n 3, 1, 0, 0, 0), some (.iconst 3, 1, 0, 0, 0), some (.iadd, 1, 0, 0, 0), some (.iaload, 1, 0, 0, 0)],
  [some (.invokevirtual 22, 3, 120, 733, 0), none, none, some (.if_icmp .eq 1119, 3, 0, 0, 0), none, none, some (.iconst 0, 1, 0, 0, 0), some (.ireturn, 1, 1, 0, 0), some (.aload_n 1, 1, 0, 0, 0), some (.aload_n 0, 1, 0, 0, 0), some (.iload_n 3, 1, 0, 0, 0), some (.iconst 1, 1, 0, 0, 0), some (.iadd, 1, 0, 0, 0), some (.iaload, 1, 0, 0, 0), some (.aload_n 0, 1, 0, 0, 0), some (.iload_n 3, 1, 0, 0, 0)],
  [some (.iconst 2, 1, 0, 0, 0), some (.iadd, 1, 0, 0, 0), some (.iaload, 1, 0, 0, 0), some (.invokevirtual 23, 3, 41, 237, 0), none, none, some (.aload_n 2, 1, 0, 0, 0), some (.aload_n 0, 1, 0, 0, 0), some (.iload_n 3, 1, 0, 0, 0), some (.iconst 1, 1, 0, 0, 0), some (.iadd, 1, 0, 0, 0), some (.iaload, 1, 0, 0, 0), some (.aload_n 0, 1, 0, 0, 0), some (.iload_n 3, 1, 0, 0, 0), some (.iconst 2, 1, 0, 0, 0), some (.iadd, 1, 0, 0, 0)],
  [some (.iaload, 1, 0, 0, 0), some (.invokevirtual 26, 3, 121, 745, 0), none, none, some (.if_icmp .eq 1086, 3, 0, 0, 0), none, none, some (.iconst 0, 1, 0, 0, 0), some (.ireturn, 1, 1, 0, 0), some (.aload_n 1, 1, 0, 0, 0), some (.aload_n 0, 1, 0, 0, 0), some (.iload_n 3, 1, 0, 0, 0), some (.iconst 1, 1, 0, 0, 0), some (.iadd, 1, 0, 0, 0), some (.iaload, 1, 0, 0, 0), some (.invokevirtual 27, 3, 42, 241, 0)]]
noncomputable def tb_0_5 : List (List (Option INS)) := [[none, none, some (.aload_n 2, 1, 0, 0, 0), some (.aload_n 0, 1, 0, 0, 0), some (.iload_n 3, 1, 0, 0, 0), some (.iconst 1, 1, 0, 0, 0), some (.iadd, 1, 0, 0, 0), some (.iaload, 1, 0, 0, 0), some (.invokevirtual 31, 3, 122, 749, 0), none, none, some (.if_icmp .eq 1063, 3, 0, 0, 0), none, none, some (.iconst 0, 1, 0, 0, 0), some (.ireturn, 1, 1, 0, 0)],
  [some (.aload_n 1, 1, 0, 0, 0), some (.aload_n 0, 1, 0, 0, 0), some (.iload_n 3, 1, 0, 0, 0), some (.iconst 1, 1, 0, 0, 0), some (.iadd, 1, 0, 0, 0), some (.iaload, 1, 0, 0, 0), some (.aload_n 0, 1, 0, 0, 0), some (.iload_n 3, 1, 0, 0, 0), some (.iconst 2, 1, 0, 0, 0), some (.iadd, 1, 0, 0, 0), some (.iaload, 1, 0, 0, 0), some (.aload_n 0, 1, 0, 0, 0), some (.iload_n 3, 1, 0, 0, 0), some (.iconst 3, 1, 0, 0, 0), some (.iadd, 1, 0, 0, 0), some (.iaload, 1, 0, 0, 0)],
  [some (.aload_n 0, 1, 0, 0, 0), some (.iload_n 3, 1, 0, 0, 0), some (.iconst 4, 1, 0, 0, 0), some (.iadd, 1, 0, 0, 0), some (.iaload, 1, 0, 0, 0), some (.aload_n 0, 1, 0, 0, 0), some (.iload_n 3, 1, 0, 0, 0), some (.iconst 5, 1, 0, 0, 0), some (.iadd, 1, 0, 0, 0), some (.iaload, 1, 0, 0, 0), some (.invokevirtual 32, 3, 43, 245, 0), none, none, some (.aload_n 2, 1, 0, 0, 0), some (.aload_n 0, 1, 0, 0, 0), some (.iload_n 3, 1, 0, 0, 0)],
  [some (.iconst 1, 1, 0, 0, 0), some (.iadd, 1, 0, 0, 0), some (.iaload, 1, 0, 0, 0), some (.aload_n 0, 1, 0, 0, 0), some (.iload_n 3, 1, 0, 0, 0), some (.iconst 2, 1, 0, 0, 0), some (.iadd, 1, 0, 0, 0), some (.iaload, 1, 0, 0, 0), some (.aload_n 0, 1, 0, 0, 0), some (.iload_n 3, 1, 0, 0, 0), some (.iconst 3, 1, 0, 0, 0), some (.iadd, 1, 0, 0, 0), some (.iaload, 1, 0, 0, 0), some (.aload_n 0, 1, 0, 0, 0), some (.iload_n 3, 1, 0, 0, 0), some (.iconst 4, 1, 0, 0, 0)]]
noncomputable def tb_0_6 : List (List (Option INS)) := [[some (.iadd, 1, 0, 0, 0), some (.iaload, 1, 0, 0, 0), some (.aload_n 0, 1, 0, 0, 0), some (.iload_n 3, 1, 0, 0, 0), some (.iconst 5, 1, 0, 0, 0), some (.iadd, 1, 0, 0, 0), some (.iaload, 1, 0, 0, 0), some (.invokevirtual 36, 3, 123, 753, 0), none, none, some (.if_icmp .eq 1000, 3, 0, 0, 0), none, none, some (.iconst 0, 1, 0, 0, 0), some (.ireturn, 1, 1, 0, 0), some (.aload_n 1, 1, 0, 0, 0)],
  [some (.aload_n 0, 1, 0, 0, 0), some (.iload_n 3, 1, 0, 0, 0), some (.iconst 1, 1, 0, 0, 0), some (.iadd, 1, 0, 0, 0), some (.iaload, 1, 0, 0, 0), some (.invokevirtual 37, 3, 44, 252, 0), none, none, some (.aload_n 2, 1, 0, 0, 0), some (.aload_n 0, 1, 0, 0, 0), some (.iload_n 3, 1, 0, 0, 0), some (.iconst 1, 1, 0, 0, 0), some (.iadd, 1, 0, 0, 0), some (.iaload, 1, 0, 0, 0), some (.invokevirtual 40, 3, 124, 757, 0), none],
  [none, some (.if_icmp .eq 977, 3, 0, 0, 0), none, none, some (.iconst 0, 1, 0, 0, 0), some (.ireturn, 1, 1, 0, 0), some (.aload_n 1, 1, 0, 0, 0), some (.aload_n 0, 1, 0, 0, 0), some (.iload_n 3, 1, 0, 0, 0), some (.iconst 1, 1, 0, 0, 0), some (.iadd, 1, 0, 0, 0), some (.iaload, 1, 0, 0, 0), some (.aload_n 0, 1, 0, 0, 0), some (.iload_n 3, 1, 0, 0, 0), some (.iconst 2, 1, 0, 0, 0), some (.iadd, 1, 0, 0, 0)],
  [some (.iaload, 1, 0, 0, 0), some (.invokevirtual 41, 3, 45, 256, 0), none, none, some (.aload_n 2, 1, 0, 0, 0), some (.aload_n 0, 1, 0, 0, 0), some (.iload_n 3, 1, 0, 0, 0), some (.iconst 1, 1, 0, 0, 0), some (.iadd, 1, 0, 0, 0), some (.iaload, 1, 0, 0, 0), some (.aload_n 0, 1, 0, 0, 0), some (.iload_n 3, 1, 0, 0, 0), some (.iconst 2, 1, 0, 0, 0), some (.iadd, 1, 0, 0, 0), some (.iaload, 1, 0, 0, 0), some (.invokevirtual 44, 3, 125, 761, 0)]]
noncomputable def tb_0_7 : List (List (Option INS)) := [[none, none, some (.if_icmp .eq 944, 3, 0, 0, 0), none, none, some (.iconst 0, 1, 0, 0, 0), some (.ireturn, 1, 1, 0, 0), some (.aload_n 1, 1, 0, 0, 0), some (.aload_n 0, 1, 0, 0, 0), some (.iload_n 3, 1, 0, 0, 0), some (.iconst 1, 1, 0, 0, 0), some (.iadd, 1, 0, 0, 0), some (.iaload, 1, 0, 0, 0), some (.aload_n 0, 1, 0, 0, 0), some (.iload_n 3, 1, 0, 0, 0), some (.iconst 2, 1, 0, 0, 0)],
  [some (.iadd, 1, 0, 0, 0), some (.iaload, 1, 0, 0, 0), some (.aload_n 0, 1, 0, 0, 0), some (.iload_n 3, 1, 0, 0, 0), some (.iconst 3, 1, 0, 0, 0), some (.iadd, 1, 0, 0, 0), some (.iaload, 1, 0, 0, 0), some (.invokevirtual 45, 3, 46, 263, 0), none, none, some (.aload_n 2, 1, 0, 0, 0), some (.aload_n 0, 1, 0, 0, 0), some (.iload_n 3, 1, 0, 0, 0), some (.iconst 1, 1, 0, 0, 0), some (.iadd, 1, 0, 0, 0), some (.iaload, 1, 0, 0, 0)],
  [some (.aload_n 0, 1, 0, 0, 0), some (.iload_n 3, 1, 0, 0, 0), some (.iconst 2, 1, 0, 0, 0), some (.iadd, 1, 0, 0, 0), some (.iaload, 1, 0, 0, 0), some (.aload_n 0, 1, 0, 0, 0), some (.iload_n 3, 1, 0, 0, 0), some (.iconst 3, 1, 0, 0, 0), some (.iadd, 1, 0, 0, 0), some (.iaload, 1, 0, 0, 0), some (.invokevirtual 48, 3, 126, 768, 0), none, none, some (.if_icmp .eq 901, 3, 0, 0, 0), none, none],
  [some (.iconst 0, 1, 0, 0, 0), some (.ireturn, 1, 1, 0, 0), some (.aload_n 1, 1, 0, 0, 0), some (.aload_n 0, 1, 0, 0, 0), some (.iload_n 3, 1, 0, 0, 0), some (.iconst 1, 1, 0, 0, 0), some (.iadd, 1, 0, 0, 0), some (.iaload, 1, 0, 0, 0), some (.invokevirtual 49, 3, 47, 267, 0), none, none, some (.aload_n 2, 1, 0, 0, 0), some (.aload_n 0, 1, 0, 0, 0), some (.iload_n 3, 1, 0, 0, 0), some (.iconst 1, 1, 0, 0, 0), some (.iadd, 1, 0, 0, 0)]]
noncomputable def tb_0_8 : List (List (Option INS)) := [[some (.iaload, 1, 0, 0, 0), some (.invokevirtual 52, 3, 129, 772, 0), none, none, some (.if_icmp .eq 878, 3, 0, 0, 0), none, none, some (.iconst 0, 1, 0, 0, 0), some (.ireturn, 1, 1, 0, 0), some (.aload_n 1, 1, 0, 0, 0), some (.aload_n 0, 1, 0, 0, 0), some (.iload_n 3, 1, 0, 0, 0), some (.iconst 1, 1, 0, 0, 0), some (.iadd, 1, 0, 0, 0), some (.iaload, 1, 0, 0, 0), some (.invokevirtual 53, 3, 48, 280, 0)],
  [none, none, some (.aload_n 2, 1, 0, 0, 0), some (.aload_n 0, 1, 0, 0, 0), some (.iload_n 3, 1, 0, 0, 0), some (.iconst 1, 1, 0, 0, 0), some (.iadd, 1, 0, 0, 0), some (.iaload, 1, 0, 0, 0), some (.invokevirtual 56, 3, 130, 783, 0), none, none, some (.if_icmp .eq 855, 3, 0, 0, 0), none, none, some (.iconst 0, 1, 0, 0, 0), some (.ireturn, 1, 1, 0, 0)],
  [some (.aload_n 1, 1, 0, 0, 0), some (.aload_n 0, 1, 0, 0, 0), some (.iload_n 3, 1, 0, 0, 0), some (.iconst 1, 1, 0, 0, 0), some (.iadd, 1, 0, 0, 0), some (.iaload, 1, 0, 0, 0), some (.aload_n 0, 1, 0, 0, 0), some (.iload_n 3, 1, 0, 0, 0), some (.iconst 2, 1, 0, 0, 0), some (.iadd, 1, 0, 0, 0), some (.iaload, 1, 0, 0, 0), some (.invokevirtual 57, 3, 49, 300, 0), none, none, some (.aload_n 2, 1, 0, 0, 0), some (.aload_n 0, 1, 0, 0, 0)],
  [some (.iload_n 3, 1, 0, 0, 0), some (.iconst 1, 1, 0, 0, 0), some (.iadd, 1, 0, 0, 0), some (.iaload, 1, 0, 0, 0), some (.aload_n 0, 1, 0, 0, 0), some (.iload_n 3, 1, 0, 0, 0), some (.iconst 2, 1, 0, 0, 0), some (.iadd, 1, 0, 0, 0), some (.iaload, 1, 0, 0, 0), some (.invokevirtual 60, 3, 141, 790, 0), none, none, some (.if_icmp .eq 822, 3, 0, 0, 0), none, none, some (.iconst 0, 1, 0, 0, 0)]]
noncomputable def tb_0_9 : List (List (Option INS)) := [[some (.ireturn, 1, 1, 0, 0), some (.aload_n 1, 1, 0, 0, 0), some (.aload_n 0, 1, 0, 0, 0), some (.iload_n 3, 1, 0, 0, 0), some (.iconst 1, 1, 0, 0, 0), some (.iadd, 1, 0, 0, 0), some (.iaload, 1, 0, 0, 0), some (.aload_n 0, 1, 0, 0, 0), some (.iload_n 3, 1, 0, 0, 0), some (.iconst 2, 1, 0, 0, 0), some (.iadd, 1, 0, 0, 0), some (.iaload, 1, 0, 0, 0), some (.invokevirtual 61, 3, 50, 344, 0), none, none, some (.aload_n 2, 1, 0, 0, 0)],
  [some (.aload_n 0, 1, 0, 0, 0), some (.iload_n 3, 1, 0, 0, 0), some (.iconst 1, 1, 0, 0, 0), some (.iadd, 1, 0, 0, 0), some (.iaload, 1, 0, 0, 0), some (.aload_n 0, 1, 0, 0, 0), some (.iload_n 3, 1, 0, 0, 0), some (.iconst 2, 1, 0, 0, 0), some (.iadd, 1, 0, 0, 0), some (.iaload, 1, 0, 0, 0), some (.invokevirtual 64, 3, 144, 829, 0), none, none, some (.if_icmp .eq 789, 3, 0, 0, 0), none, none],
  [some (.iconst 0, 1, 0, 0, 0), some (.ireturn, 1, 1, 0, 0), some (.aload_n 1, 1, 0, 0, 0), some (.aload_n 0, 1, 0, 0, 0), some (.iload_n 3, 1, 0, 0, 0), some (.iconst 1, 1, 0, 0, 0), some (.iadd, 1, 0, 0, 0), some (.iaload, 1, 0, 0, 0), some (.aload_n 0, 1, 0, 0, 0), some (.iload_n 3, 1, 0, 0, 0), some (.iconst 2, 1, 0, 0, 0), some (.iadd, 1, 0, 0, 0), some (.iaload, 1, 0, 0, 0), some (.invokevirtual 65, 3, 51, 364, 0), none, none],
  [some (.aload_n 2, 1, 0, 0, 0), some (.aload_n 0, 1, 0, 0, 0), some (.iload_n 3, 1, 0, 0, 0), some (.iconst 1, 1, 0, 0, 0), some (.iadd, 1, 0, 0, 0), some (.iaload, 1, 0, 0, 0), some (.aload_n 0, 1, 0, 0, 0), some (.iload_n 3, 1, 0, 0, 0), some (.iconst 2, 1, 0, 0, 0), some (.iadd, 1, 0, 0, 0), some (.iaload, 1, 0, 0, 0), some (.invokevirtual 68, 3, 146, 844, 0), none, none, some (.if_icmp .eq 756, 3, 0, 0, 0), none]]
noncomputable def tb_0_10 : List (List (Option INS)) := [[none, some (.iconst 0, 1, 0, 0, 0), some (.ireturn, 1, 1, 0, 0), some (.aload_n 1, 1, 0, 0, 0), some (.aload_n 0, 1, 0, 0, 0), some (.iload_n 3, 1, 0, 0, 0), some (.iconst 1, 1, 0, 0, 0), some (.iadd, 1, 0, 0, 0), some (.iaload, 1, 0, 0, 0), some (.aload_n 0, 1, 0, 0, 0), some (.iload_n 3, 1, 0, 0, 0), some (.iconst 2, 1, 0, 0, 0), some (.iadd, 1, 0, 0, 0), some (.iaload, 1, 0, 0, 0), some (.aload_n 0, 1, 0, 0, 0), some (.iload_n 3, 1, 0, 0, 0)],
  [some (.iconst 3, 1, 0, 0, 0), some (.iadd, 1, 0, 0, 0), some (.iaload, 1, 0, 0, 0), some (.invokevirtual 69, 3, 52, 384, 0), none, none, some (.aload_n 2, 1, 0, 0, 0), some (.aload_n 0, 1, 0, 0, 0), some (.iload_n 3, 1, 0, 0, 0), some (.iconst 1, 1, 0, 0, 0), some (.iadd, 1, 0, 0, 0), some (.iaload, 1, 0, 0, 0), some (.aload_n 0, 1, 0, 0, 0), some (.iload_n 3, 1, 0, 0, 0), some (.iconst 2, 1, 0, 0, 0), some (.iadd, 1, 0, 0, 0)],
  [some (.iaload, 1, 0, 0, 0), some (.aload_n 0, 1, 0, 0, 0), some (.iload_n 3, 1, 0, 0, 0), some (.iconst 3, 1, 0, 0, 0), some (.iadd, 1, 0, 0, 0), some (.iaload, 1, 0, 0, 0), some (.invokevirtual 72, 3, 147, 856, 0), none, none, some (.if_icmp .eq 713, 3, 0, 0, 0), none, none, some (.iconst 0, 1, 0, 0, 0), some (.ireturn, 1, 1, 0, 0), some (.aload_n 1, 1, 0, 0, 0), some (.aload_n 0, 1, 0, 0, 0)],
  [some (.iload_n 3, 1, 0, 0, 0), some (.iconst 1, 1, 0, 0, 0), some (.iadd, 1, 0, 0, 0), some (.iaload, 1, 0, 0, 0), some (.invokevirtual 73, 3, 53, 394, 0), none, none, some (.aload_n 2, 1, 0, 0, 0), some (.aload_n 0, 1, 0, 0, 0), some (.iload_n 3, 1, 0, 0, 0), some (.iconst 1, 1, 0, 0, 0), some (.iadd, 1, 0, 0, 0), some (.iaload, 1, 0, 0, 0), some (.invokevirtual 76, 3, 148, 860, 0), none, none]]
noncomputable def tb_0_11 : List (List (Option INS)) := [[some (.if_icmp .eq 690, 3, 0, 0, 0), none, none, some (.iconst 0, 1, 0, 0, 0), some (.ireturn, 1, 1, 0, 0), some (.aload_n 1, 1, 0, 0, 0), some (.aload_n 0, 1, 0, 0, 0), some (.iload_n 3, 1, 0, 0, 0), some (.iconst 1, 1, 0, 0, 0), some (.iadd, 1, 0, 0, 0), some (.iaload, 1, 0, 0, 0), some (.invokevirtual 77, 3, 54, 402, 0), none, none, some (.aload_n 2, 1, 0, 0, 0), some (.aload_n 0, 1, 0, 0, 0)],
  [some (.iload_n 3, 1, 0, 0, 0), some (.iconst 1, 1, 0, 0, 0), some (.iadd, 1, 0, 0, 0), some (.iaload, 1, 0, 0, 0), some (.invokevirtual 80, 3, 149, 864, 0), none, none, some (.if_icmp .eq 667, 3, 0, 0, 0), none, none, some (.iconst 0, 1, 0, 0, 0), some (.ireturn, 1, 1, 0, 0), some (.aload_n 1, 1, 0, 0, 0), some (.aload_n 0, 1, 0, 0, 0), some (.iload_n 3, 1, 0, 0, 0), some (.iconst 1, 1, 0, 0, 0)],
  [some (.iadd, 1, 0, 0, 0), some (.iaload, 1, 0, 0, 0), some (.invokevirtual 81, 3, 55, 418, 0), none, none, some (.aload_n 2, 1, 0, 0, 0), some (.aload_n 0, 1, 0, 0, 0), some (.iload_n 3, 1, 0, 0, 0), some (.iconst 1, 1, 0, 0, 0), some (.iadd, 1, 0, 0, 0), some (.iaload, 1, 0, 0, 0), some (.invokevirtual 84, 3, 150, 868, 0), none, none, some (.if_icmp .eq 644, 3, 0, 0, 0), none],
  [none, some (.iconst 0, 1, 0, 0, 0), some (.ireturn, 1, 1, 0, 0), some (.aload_n 1, 1, 0, 0, 0), some (.aload_n 0, 1, 0, 0, 0), some (.iload_n 3, 1, 0, 0, 0), some (.iconst 1, 1, 0, 0, 0), some (.iadd, 1, 0, 0, 0), some (.iaload, 1, 0, 0, 0), some (.aload_n 0, 1, 0, 0, 0), some (.iload_n 3, 1, 0, 0, 0), some (.iconst 2, 1, 0, 0, 0), some (.iadd, 1, 0, 0, 0), some (.iaload, 1, 0, 0, 0), some (.aload_n 0, 1, 0, 0, 0), some (.iload_n 3, 1, 0, 0, 0)]]
noncomputable def tb_0_12 : List (List (Option INS)) := [[some (.iconst 3, 1, 0, 0, 0), some (.iadd, 1, 0, 0, 0), some (.iaload, 1, 0, 0, 0), some (.invokevirtual 85, 3, 56, 422, 0), none, none, some (.aload_n 2, 1, 0, 0, 0), some (.aload_n 0, 1, 0, 0, 0), some (.iload_n 3, 1, 0, 0, 0), some (.iconst 1, 1, 0, 0, 0), some (.iadd, 1, 0, 0, 0), some (.iaload, 1, 0, 0, 0), some (.aload_n 0, 1, 0, 0, 0), some (.iload_n 3, 1, 0, 0, 0), some (.iconst 2, 1, 0, 0, 0), some (.iadd, 1, 0, 0, 0)],
  [some (.iaload, 1, 0, 0, 0), some (.aload_n 0, 1, 0, 0, 0), some (.iload_n 3, 1, 0, 0, 0), some (.iconst 3, 1, 0, 0, 0), some (.iadd, 1, 0, 0, 0), some (.iaload, 1, 0, 0, 0), some (.invokevirtual 88, 3, 152, 872, 0), none, none, some (.if_icmp .eq 601, 3, 0, 0, 0), none, none, some (.iconst 0, 1, 0, 0, 0), some (.ireturn, 1, 1, 0, 0), some (.aload_n 1, 1, 0, 0, 0), some (.aload_n 0, 1, 0, 0, 0)],
  [some (.iload_n 3, 1, 0, 0, 0), some (.iconst 1, 1, 0, 0, 0), some (.iadd, 1, 0, 0, 0), some (.iaload, 1, 0, 0, 0), some (.aload_n 0, 1, 0, 0, 0), some (.iload_n 3, 1, 0, 0, 0), some (.iconst 2, 1, 0, 0, 0), some (.iadd, 1, 0, 0, 0), some (.iaload, 1, 0, 0, 0), some (.invokevirtual 89, 3, 57, 428, 0), none, none, some (.aload_n 2, 1, 0, 0, 0), some (.aload_n 0, 1, 0, 0, 0), some (.iload_n 3, 1, 0, 0, 0), some (.iconst 1, 1, 0, 0, 0)],
  [some (.iadd, 1, 0, 0, 0), some (.iaload, 1, 0, 0, 0), some (.aload_n 0, 1, 0, 0, 0), some (.iload_n 3, 1, 0, 0, 0), some (.iconst 2, 1, 0, 0, 0), some (.iadd, 1, 0, 0, 0), some (.iaload, 1, 0, 0, 0), some (.invokevirtual 92, 3, 154, 876, 0), none, none, some (.if_icmp .eq 568, 3, 0, 0, 0), none, none, some (.iconst 0, 1, 0, 0, 0), some (.ireturn, 1, 1, 0, 0), some (.aload_n 1, 1, 0, 0, 0)]]
noncomputable def tb_0_13 : List (List (Option INS)) := [[some (.aload_n 0, 1, 0, 0, 0), some (.iload_n 3, 1, 0, 0, 0), some (.iconst 1, 1, 0, 0, 0), some (.iadd, 1, 0, 0, 0), some (.iaload, 1, 0, 0, 0), some (.aload_n 0, 1, 0, 0, 0), some (.iload_n 3, 1, 0, 0, 0), some (.iconst 2, 1, 0, 0, 0), some (.iadd, 1, 0, 0, 0), some (.iaload, 1, 0, 0, 0), some (.aload_n 0, 1, 0, 0, 0), some (.iload_n 3, 1, 0, 0, 0), some (.iconst 3, 1, 0, 0, 0), some (.iadd, 1, 0, 0, 0), some (.iaload, 1, 0, 0, 0), some (.aload_n 0, 1, 0, 0, 0)],
  [some (.iload_n 3, 1, 0, 0, 0), some (.iconst 4, 1, 0, 0, 0), some (.iadd, 1, 0, 0, 0), some (.iaload, 1, 0, 0, 0), some (.invokevirtual 93, 3, 58, 437, 0), none, none, some (.aload_n 2, 1, 0, 0, 0), some (.aload_n 0, 1, 0, 0, 0), some (.iload_n 3, 1, 0, 0, 0), some (.iconst 1, 1, 0, 0, 0), some (.iadd, 1, 0, 0, 0), some (.iaload, 1, 0, 0, 0), some (.aload_n 0, 1, 0, 0, 0), some (.iload_n 3, 1, 0, 0, 0), some (.iconst 2, 1, 0, 0, 0)],
  [some (.iadd, 1, 0, 0, 0), some (.iaload, 1, 0, 0, 0), some (.aload_n 0, 1, 0, 0, 0), some (.iload_n 3, 1, 0, 0, 0), some (.iconst 3, 1, 0, 0, 0), some (.iadd, 1, 0, 0, 0), some (.iaload, 1, 0, 0, 0), some (.aload_n 0, 1, 0, 0, 0), some (.iload_n 3, 1, 0, 0, 0), some (.iconst 4, 1, 0, 0, 0), some (.iadd, 1, 0, 0, 0), some (.iaload, 1, 0, 0, 0), some (.invokevirtual 97, 3, 158, 891, 0), none, none, some (.if_icmp .eq 515, 3, 0, 0, 0)],
  [none, none, some (.iconst 0, 1, 0, 0, 0), some (.ireturn, 1, 1, 0, 0), some (.aload_n 1, 1, 0, 0, 0), some (.aload_n 0, 1, 0, 0, 0), some (.iload_n 3, 1, 0, 0, 0), some (.iconst 1, 1, 0, 0, 0), some (.iadd, 1, 0, 0, 0), some (.iaload, 1, 0, 0, 0), some (.aload_n 0, 1, 0, 0, 0), some (.iload_n 3, 1, 0, 0, 0), some (.iconst 2, 1, 0, 0, 0), some (.iadd, 1, 0, 0, 0), some (.iaload, 1, 0, 0, 0), some (.invokevirtual 98, 3, 59, 447, 0)]]
noncomputable def tb_0_14 : List (List (Option INS)) := [[none, none, some (.aload_n 2, 1, 0, 0, 0), some (.aload_n 0, 1, 0, 0, 0), some (.iload_n 3, 1, 0, 0, 0), some (.iconst 1, 1, 0, 0, 0), some (.iadd, 1, 0, 0, 0), some (.iaload, 1, 0, 0, 0), some (.aload_n 0, 1, 0, 0, 0), some (.iload_n 3, 1, 0, 0, 0), some (.iconst 2, 1, 0, 0, 0), some (.iadd, 1, 0, 0, 0), some (.iaload, 1, 0, 0, 0), some (.invokevirtual 101, 3, 160, 906, 0), none, none],
  [some (.if_icmp .eq 482, 3, 0, 0, 0), none, none, some (.iconst 0, 1, 0, 0, 0), some (.ireturn, 1, 1, 0, 0), some (.aload_n 1, 1, 0, 0, 0), some (.aload_n 0, 1, 0, 0, 0), some (.iload_n 3, 1, 0, 0, 0), some (.iconst 1, 1, 0, 0, 0), some (.iadd, 1, 0, 0, 0), some (.iaload, 1, 0, 0, 0), some (.aload_n 0, 1, 0, 0, 0), some (.iload_n 3, 1, 0, 0, 0), some (.iconst 2, 1, 0, 0, 0), some (.iadd, 1, 0, 0, 0), some (.iaload, 1, 0, 0, 0)],
  [some (.invokevirtual 102, 3, 60, 468, 0), none, none, some (.aload_n 2, 1, 0, 0, 0), some (.aload_n 0, 1, 0, 0, 0), some (.iload_n 3, 1, 0, 0, 0), some (.iconst 1, 1, 0, 0, 0), some (.iadd, 1, 0, 0, 0), some (.iaload, 1, 0, 0, 0), some (.aload_n 0, 1, 0, 0, 0), some (.iload_n 3, 1, 0, 0, 0), some (.iconst 2, 1, 0, 0, 0), some (.iadd, 1, 0, 0, 0), some (.iaload, 1, 0, 0, 0), some (.invokevirtual 105, 3, 161, 914, 0), none],
  [none, some (.if_icmp .eq 449, 3, 0, 0, 0), none, none, some (.iconst 0, 1, 0, 0, 0), some (.ireturn, 1, 1, 0, 0), some (.aload_n 1, 1, 0, 0, 0), some (.aload_n 0, 1, 0, 0, 0), some (.iload_n 3, 1, 0, 0, 0), some (.iconst 1, 1, 0, 0, 0), some (.iadd, 1, 0, 0, 0), some (.iaload, 1, 0, 0, 0), some (.aload_n 0, 1, 0, 0, 0), some (.iload_n 3, 1, 0, 0, 0), some (.iconst 2, 1, 0, 0, 0), some (.iadd, 1, 0, 0, 0)]]
noncomputable def tb_0_15 : List (List (Option INS)) := [[some (.iaload, 1, 0, 0, 0), some (.invokevirtual 106, 3, 61, 472, 0), none, none, some (.aload_n 2, 1, 0, 0, 0), some (.aload_n 0, 1, 0, 0, 0), some (.iload_n 3, 1, 0, 0, 0), some (.iconst 1, 1, 0, 0, 0), some (.iadd, 1, 0, 0, 0), some (.iaload, 1, 0, 0, 0), some (.aload_n 0, 1, 0, 0, 0), some (.iload_n 3, 1, 0, 0, 0), some (.iconst 2, 1, 0, 0, 0), some (.iadd, 1, 0, 0, 0), some (.iaload, 1, 0, 0, 0), some (.invokevirtual 109, 3, 164, 918, 0)],
  [none, none, some (.if_icmp .eq 416, 3, 0, 0, 0), none, none, some (.iconst 0, 1, 0, 0, 0), some (.ireturn, 1, 1, 0, 0), some (.aload_n 1, 1, 0, 0, 0), some (.aload_n 0, 1, 0, 0, 0), some (.iload_n 3, 1, 0, 0, 0), some (.iconst 1, 1, 0, 0, 0), some (.iadd, 1, 0, 0, 0), some (.iaload, 1, 0, 0, 0), some (.aload_n 0, 1, 0, 0, 0), some (.iload_n 3, 1, 0, 0, 0), some (.iconst 2, 1, 0, 0, 0)],
  [some (.iadd, 1, 0, 0, 0), some (.iaload, 1, 0, 0, 0), some (.invokevirtual 110, 3, 62, 489, 0), none, none, some (.aload_n 2, 1, 0, 0, 0), some (.aload_n 0, 1, 0, 0, 0), some (.iload_n 3, 1, 0, 0, 0), some (.iconst 1, 1, 0, 0, 0), some (.iadd, 1, 0, 0, 0), some (.iaload, 1, 0, 0, 0), some (.aload_n 0, 1, 0, 0, 0), some (.iload_n 3, 1, 0, 0, 0), some (.iconst 2, 1, 0, 0, 0), some (.iadd, 1, 0, 0, 0), some (.iaload, 1, 0, 0, 0)],
  [some (.invokevirtual 113, 3, 166, 930, 0), none, none, some (.if_icmp .eq 383, 3, 0, 0, 0), none, none, some (.iconst 0, 1, 0, 0, 0), some (.ireturn, 1, 1, 0, 0), some (.aload_n 1, 1, 0, 0, 0), some (.aload_n 0, 1, 0, 0, 0), some (.iload_n 3, 1, 0, 0, 0), some (.iconst 1, 1, 0, 0, 0), some (.iadd, 1, 0, 0, 0), some (.iaload, 1, 0, 0, 0), some (.invokevirtual 114, 3, 63, 498, 0), none]]
noncomputable def tb_0_16 : List (List (Option INS)) := [[none, some (.aload_n 2, 1, 0, 0, 0), some (.aload_n 0, 1, 0, 0, 0), some (.iload_n 3, 1, 0, 0, 0), some (.iconst 1, 1, 0, 0, 0), some (.iadd, 1, 0, 0, 0), some (.iaload, 1, 0, 0, 0), some (.invokevirtual 117, 3, 168, 938, 0), none, none, some (.if_icmp .eq 360, 3, 0, 0, 0), none, none, some (.iconst 0, 1, 0, 0, 0), some (.ireturn, 1, 1, 0, 0), some (.aload_n 1, 1, 0, 0, 0)],
  [some (.aload_n 0, 1, 0, 0, 0), some (.iload_n 3, 1, 0, 0, 0), some (.iconst 1, 1, 0, 0, 0), some (.iadd, 1, 0, 0, 0), some (.iaload, 1, 0, 0, 0), some (.invokevirtual 118, 3, 64, 531, 0), none, none, some (.aload_n 2, 1, 0, 0, 0), some (.aload_n 0, 1, 0, 0, 0), some (.iload_n 3, 1, 0, 0, 0), some (.iconst 1, 1, 0, 0, 0), some (.iadd, 1, 0, 0, 0), some (.iaload, 1, 0, 0, 0), some (.invokevirtual 121, 3, 169, 946, 0), none],
  [none, some (.if_icmp .eq 337, 3, 0, 0, 0), none, none, some (.iconst 0, 1, 0, 0, 0), some (.ireturn, 1, 1, 0, 0), some (.aload_n 1, 1, 0, 0, 0), some (.aload_n 0, 1, 0, 0, 0), some (.iload_n 3, 1, 0, 0, 0), some (.iconst 1, 1, 0, 0, 0), some (.iadd, 1, 0, 0, 0), some (.iaload, 1, 0, 0, 0), some (.invokevirtual 122, 3, 65, 535, 0), none, none, some (.aload_n 2, 1, 0, 0, 0)],
  [some (.aload_n 0, 1, 0, 0, 0), some (.iload_n 3, 1, 0, 0, 0), some (.iconst 1, 1, 0, 0, 0), some (.iadd, 1, 0, 0, 0), some (.iaload, 1, 0, 0, 0), some (.invokevirtual 125, 3, 170, 950, 0), none, none, some (.if_icmp .eq 314, 3, 0, 0, 0), none, none, some (.iconst 0, 1, 0, 0, 0), some (.ireturn, 1, 1, 0, 0), some (.aload_n 1, 1, 0, 0, 0), some (.aload_n 0, 1, 0, 0, 0), some (.iload_n 3, 1, 0, 0, 0)]]
noncomputable def tb_0_17 : List (List (Option INS)) := [[some (.iconst 1, 1, 0, 0, 0), some (.iadd, 1, 0, 0, 0), some (.iaload, 1, 0, 0, 0), some (.aload_n 0, 1, 0, 0, 0), some (.iload_n 3, 1, 0, 0, 0), some (.iconst 2, 1, 0, 0, 0), some (.iadd, 1, 0, 0, 0), some (.iaload, 1, 0, 0, 0), some (.invokevirtual 126, 3, 66, 539, 0), none, none, some (.aload_n 2, 1, 0, 0, 0), some (.aload_n 0, 1, 0, 0, 0), some (.iload_n 3, 1, 0, 0, 0), some (.iconst 1, 1, 0, 0, 0), some (.iadd, 1, 0, 0, 0)],
  [some (.iaload, 1, 0, 0, 0), some (.aload_n 0, 1, 0, 0, 0), some (.iload_n 3, 1, 0, 0, 0), some (.iconst 2, 1, 0, 0, 0), some (.iadd, 1, 0, 0, 0), some (.iaload, 1, 0, 0, 0), some (.invokevirtual 129, 3, 171, 954, 0), none, none, some (.if_icmp .eq 281, 3, 0, 0, 0), none, none, some (.iconst 0, 1, 0, 0, 0), some (.ireturn, 1, 1, 0, 0), some (.aload_n 1, 1, 0, 0, 0), some (.aload_n 0, 1, 0, 0, 0)],
  [some (.iload_n 3, 1, 0, 0, 0), some (.iconst 1, 1, 0, 0, 0), some (.iadd, 1, 0, 0, 0), some (.iaload, 1, 0, 0, 0), some (.aload_n 0, 1, 0, 0, 0), some (.iload_n 3, 1, 0, 0, 0), some (.iconst 2, 1, 0, 0, 0), some (.iadd, 1, 0, 0, 0), some (.iaload, 1, 0, 0, 0), some (.aload_n 0, 1, 0, 0, 0), some (.iload_n 3, 1, 0, 0, 0), some (.iconst 3, 1, 0, 0, 0), some (.iadd, 1, 0, 0, 0), some (.iaload, 1, 0, 0, 0), some (.invokevirtual 130, 3, 67, 543, 0), none],
  [none, some (.aload_n 2, 1, 0, 0, 0), some (.aload_n 0, 1, 0, 0, 0), some (.iload_n 3, 1, 0, 0, 0), some (.iconst 1, 1, 0, 0, 0), some (.iadd, 1, 0, 0, 0), some (.iaload, 1, 0, 0, 0), some (.aload_n 0, 1, 0, 0, 0), some (.iload_n 3, 1, 0, 0, 0), some (.iconst 2, 1, 0, 0, 0), some (.iadd, 1, 0, 0, 0), some (.iaload, 1, 0, 0, 0), some (.aload_n 0, 1, 0, 0, 0), some (.iload_n 3, 1, 0, 0, 0), some (.iconst 3, 1, 0, 0, 0), some (.iadd, 1, 0, 0, 0)]]
noncomputable def tb_0_18 : List (List (Option INS)) := [[some (.iaload, 1, 0, 0, 0), some (.invokevirtual 133, 3, 172, 958, 0), none, none, some (.if_icmp .eq 238, 3, 0, 0, 0), none, none, some (.iconst 0, 1, 0, 0, 0), some (.ireturn, 1, 1, 0, 0), some (.aload_n 1, 1, 0, 0, 0), some (.aload_n 0, 1, 0, 0, 0), some (.iload_n 3, 1, 0, 0, 0), some (.iconst 1, 1, 0, 0, 0), some (.iadd, 1, 0, 0, 0), some (.iaload, 1, 0, 0, 0), some (.aload_n 0, 1, 0, 0, 0)],
  [some (.iload_n 3, 1, 0, 0, 0), some (.iconst 2, 1, 0, 0, 0), some (.iadd, 1, 0, 0, 0), some (.iaload, 1, 0, 0, 0), some (.aload_n 0, 1, 0, 0, 0), some (.iload_n 3, 1, 0, 0, 0), some (.iconst 3, 1, 0, 0, 0), some (.iadd, 1, 0, 0, 0), some (.iaload, 1, 0, 0, 0), some (.invokevirtual 134, 3, 68, 550, 0), none, none, some (.aload_n 2, 1, 0, 0, 0), some (.aload_n 0, 1, 0, 0, 0), some (.iload_n 3, 1, 0, 0, 0), some (.iconst 1, 1, 0, 0, 0)],
  [some (.iadd, 1, 0, 0, 0), some (.iaload, 1, 0, 0, 0), some (.aload_n 0, 1, 0, 0, 0), some (.iload_n 3, 1, 0, 0, 0), some (.iconst 2, 1, 0, 0, 0), some (.iadd, 1, 0, 0, 0), some (.iaload, 1, 0, 0, 0), some (.aload_n 0, 1, 0, 0, 0), some (.iload_n 3, 1, 0, 0, 0), some (.iconst 3, 1, 0, 0, 0), some (.iadd, 1, 0, 0, 0), some (.iaload, 1, 0, 0, 0), some (.invokevirtual 137, 3, 174, 962, 0), none, none, some (.if_icmp .eq 195, 3, 0, 0, 0)],
  [none, none, some (.iconst 0, 1, 0, 0, 0), some (.ireturn, 1, 1, 0, 0), some (.aload_n 1, 1, 0, 0, 0), some (.aload_n 0, 1, 0, 0, 0), some (.iload_n 3, 1, 0, 0, 0), some (.iconst 1, 1, 0, 0, 0), some (.iadd, 1, 0, 0, 0), some (.iaload, 1, 0, 0, 0), some (.aload_n 0, 1, 0, 0, 0), some (.iload_n 3, 1, 0, 0, 0), some (.iconst 2, 1, 0, 0, 0), some (.iadd, 1, 0, 0, 0), some (.iaload, 1, 0, 0, 0), some (.aload_n 0, 1, 0, 0, 0)]]
noncomputable def tb_0_19 : List (List (Option INS)) := [[some (.iload_n 3, 1, 0, 0, 0), some (.iconst 3, 1, 0, 0, 0), some (.iadd, 1, 0, 0, 0), some (.iaload, 1, 0, 0, 0), some (.invokevirtual 138, 3, 69, 567, 0), none, none, some (.aload_n 2, 1, 0, 0, 0), some (.aload_n 0, 1, 0, 0, 0), some (.iload_n 3, 1, 0, 0, 0), some (.iconst 1, 1, 0, 0, 0), some (.iadd, 1, 0, 0, 0), some (.iaload, 1, 0, 0, 0), some (.aload_n 0, 1, 0, 0, 0), some (.iload_n 3, 1, 0, 0, 0), some (.iconst 2, 1, 0, 0, 0)],
  [some (.iadd, 1, 0, 0, 0), some (.iaload, 1, 0, 0, 0), some (.aload_n 0, 1, 0, 0, 0), some (.iload_n 3, 1, 0, 0, 0), some (.iconst 3, 1, 0, 0, 0), some (.iadd, 1, 0, 0, 0), some (.iaload, 1, 0, 0, 0), some (.invokevirtual 141, 3, 175, 970, 0), none, none, some (.if_icmp .eq 152, 3, 0, 0, 0), none, none, some (.iconst 0, 1, 0, 0, 0), some (.ireturn, 1, 1, 0, 0), some (.aload_n 1, 1, 0, 0, 0)],
  [some (.aload_n 0, 1, 0, 0, 0), some (.iload_n 3, 1, 0, 0, 0), some (.iconst 1, 1, 0, 0, 0), some (.iadd, 1, 0, 0, 0), some (.iaload, 1, 0, 0, 0), some (.aload_n 0, 1, 0, 0, 0), some (.iload_n 3, 1, 0, 0, 0), some (.iconst 2, 1, 0, 0, 0), some (.iadd, 1, 0, 0, 0), some (.iaload, 1, 0, 0, 0), some (.invokevirtual 142, 3, 70, 571, 0), none, none, some (.aload_n 2, 1, 0, 0, 0), some (.aload_n 0, 1, 0, 0, 0), some (.iload_n 3, 1, 0, 0, 0)],
  [some (.iconst 1, 1, 0, 0, 0), some (.iadd, 1, 0, 0, 0), some (.iaload, 1, 0, 0, 0), some (.aload_n 0, 1, 0, 0, 0), some (.iload_n 3, 1, 0, 0, 0), some (.iconst 2, 1, 0, 0, 0), some (.iadd, 1, 0, 0, 0), some (.iaload, 1, 0, 0, 0), some (.invokevirtual 145, 3, 177, 974, 0), none, none, some (.if_icmp .eq 119, 3, 0, 0, 0), none, none, some (.iconst 0, 1, 0, 0, 0), some (.ireturn, 1, 1, 0, 0)]]
noncomputable def tb_0_20 : List (List (Option INS)) := [[some (.aload_n 1, 1, 0, 0, 0), some (.invokevirtual 146, 3, 71, 587, 0), none, none, some (.aload_n 2, 1, 0, 0, 0), some (.invokevirtual 150, 3, 178, 985, 0), none, none, some (.if_icmp .eq 106, 3, 0, 0, 0), none, none, some (.iconst 0, 1, 0, 0, 0), some (.ireturn, 1, 1, 0, 0), some (.aload_n 1, 1, 0, 0, 0), some (.invokevirtual 151, 3, 72, 591, 0), none],
  [none, some (.aload_n 2, 1, 0, 0, 0), some (.invokevirtual 155, 3, 179, 989, 0), none, none, some (.lcmp, 1, 0, 0, 0), some (.ifCond .eq 92, 3, 0, 0, 0), none, none, some (.iconst 0, 1, 0, 0, 0), some (.ireturn, 1, 1, 0, 0), some (.aload_n 1, 1, 0, 0, 0), some (.invokevirtual 156, 3, 73, 595, 0), none, none, some (.aload_n 2, 1, 0, 0, 0)],
  [some (.invokevirtual 159, 3, 180, 993, 0), none, none, some (.lcmp, 1, 0, 0, 0), some (.ifCond .eq 78, 3, 0, 0, 0), none, none, some (.iconst 0, 1, 0, 0, 0), some (.ireturn, 1, 1, 0, 0), some (.aload_n 1, 1, 0, 0, 0), some (.aload_n 0, 1, 0, 0, 0), some (.iload_n 3, 1, 0, 0, 0), some (.iconst 1, 1, 0, 0, 0), some (.iadd, 1, 0, 0, 0), some (.iaload, 1, 0, 0, 0), some (.invokevirtual 160, 3, 74, 599, 0)],
  [none, none, some (.aload_n 2, 1, 0, 0, 0), some (.aload_n 0, 1, 0, 0, 0), some (.iload_n 3, 1, 0, 0, 0), some (.iconst 1, 1, 0, 0, 0), some (.iadd, 1, 0, 0, 0), some (.iaload, 1, 0, 0, 0), some (.invokevirtual 163, 3, 184, 997, 0), none, none, some (.if_icmp .eq 55, 3, 0, 0, 0), none, none, some (.iconst 0, 1, 0, 0, 0), some (.ireturn, 1, 1, 0, 0)]]
noncomputable def tb_0_21 : List (List (Option INS)) := [[some (.aload_n 1, 1, 0, 0, 0), some (.invokevirtual 164, 3, 75, 615, 0), none, none, some (.aload_n 2, 1, 0, 0, 0), some (.invokevirtual 167, 3, 185, 1012, 0), none, none, some (.if_icmp .eq 42, 3, 0, 0, 0), none, none, some (.iconst 0, 1, 0, 0, 0), some (.ireturn, 1, 1, 0, 0), some (.aload_n 1, 1, 0, 0, 0), some (.aload_n 0, 1, 0, 0, 0), some (.iload_n 3, 1, 0, 0, 0)],
  [some (.iconst 1, 1, 0, 0, 0), some (.iadd, 1, 0, 0, 0), some (.iaload, 1, 0, 0, 0), some (.invokevirtual 168, 3, 76, 619, 0), none, none, some (.aload_n 2, 1, 0, 0, 0), some (.aload_n 0, 1, 0, 0, 0), some (.iload_n 3, 1, 0, 0, 0), some (.iconst 1, 1, 0, 0, 0), some (.iadd, 1, 0, 0, 0), some (.iaload, 1, 0, 0, 0), some (.invokevirtual 171, 3, 186, 1016, 0), none, none, some (.if_icmp .eq 19, 3, 0, 0, 0)],
  [none, none, some (.iconst 0, 1, 0, 0, 0), some (.ireturn, 1, 1, 0, 0), some (.aload_n 1, 1, 0, 0, 0), some (.invokevirtual 172, 3, 77, 623, 0), none, none, some (.aload_n 2, 1, 0, 0, 0), some (.invokevirtual 175, 3, 187, 1020, 0), none, none, some (.lcmp, 1, 0, 0, 0), some (.ifCond .eq 5, 3, 0, 0, 0), none, none],
  [some (.iconst 0, 1, 0, 0, 0), some (.ireturn, 1, 1, 0, 0), some (.iinc 3 6, 3, 0, 0, 0), none, none, some (.goto (-1379), 3, 0, 0, 0), none, none, some (.iconst 1, 1, 0, 0, 0), some (.ireturn, 1, 1, 0, 0)]]
noncomputable def tb_0 : List (List (Option INS)) := tb_0_0 ++ (tb_0_1 ++ (tb_0_2 ++ (tb_0_3 ++ (tb_0_4 ++ (tb_0_5 ++ (tb_0_6 ++ (tb_0_7 ++ (tb_0_8 ++ (tb_0_9 ++ (tb_0_10 ++ (tb_0_11 ++ (tb_0_12 ++ (tb_0_13 ++ (tb_0_14 ++ (tb_0_15 ++ (tb_0_16 ++ (tb_0_17 ++ (tb_0_18 ++ (tb_0_19 ++ (tb_0_20 ++ (tb_0_21)))))))))))))))))))))
noncomputable def tb_1_0 : List (List (Option INS)) := [[some (.aload_n 0, 1, 0, 0, 0), some (.invokespecial 3, 3, 9998, 78, 0), none, none, some (.aload_n 0, 1, 0, 0, 0), some (.bipush 6, 2, 0, 0, 0), none, some (.newarray .int, 2, 0, 0, 0), none, some (.putfield 11, 3, 0, 0, 79), none, none, some (.aload_n 0, 1, 0, 0, 0), some (.bipush 6, 2, 0, 0, 0), none, some (.newarray .int, 2, 0, 0, 0)],
  [none, some (.putfield 15, 3, 0, 1, 81), none, none, some (.aload_n 0, 1, 0, 0, 0), some (.bipush 6, 2, 0, 0, 0), none, some (.newarray .int, 2, 0, 0, 0), none, some (.putfield 18, 3, 0, 2, 83), none, none, some (.aload_n 0, 1, 0, 0, 0), some (.bipush 40, 2, 0, 0, 0), none, some (.newarray .int, 2, 0, 0, 0)],
  [none, some (.putfield 21, 3, 0, 3, 85), none, none, some (.aload_n 0, 1, 0, 0, 0), some (.bipush 40, 2, 0, 0, 0), none, some (.newarray .int, 2, 0, 0, 0), none, some (.putfield 24, 3, 0, 4, 86), none, none, some (.aload_n 0, 1, 0, 0, 0), some (.bipush 40, 2, 0, 0, 0), none, some (.newarray .int, 2, 0, 0, 0)],
  [none, some (.putfield 27, 3, 0, 5, 87), none, none, some (.aload_n 0, 1, 0, 0, 0), some (.bipush 40, 2, 0, 0, 0), none, some (.newarray .int, 2, 0, 0, 0), none, some (.putfield 30, 3, 0, 6, 88), none, none, some (.aload_n 0, 1, 0, 0, 0), some (.iconst 0, 1, 0, 0, 0), some (.putfield 33, 3, 0, 7, 89), none]]
noncomputable def tb_1_1 : List (List (Option INS)) := [[none, some (.aload_n 0, 1, 0, 0, 0), some (.iconst 0, 1, 0, 0, 0), some (.putfield 37, 3, 0, 8, 91), none, none, some (.aload_n 0, 1, 0, 0, 0), some (.iconst 0, 1, 0, 0, 0), some (.putfield 40, 3, 0, 9, 93), none, none, some (.return_, 1, 0, 0, 0)]]
noncomputable def tb_1 : List (List (Option INS)) := tb_1_0 ++ (tb_1_1)
noncomputable def tb_2 : List (List (Option INS)) := [[some (.aload_n 0, 1, 0, 0, 0), some (.getfield 33, 3, 0, 7, 89), none, none, some (.ifCond .ne 7, 3, 0, 0, 0), none, none, some (.iconst 1, 1, 0, 0, 0), some (.goto 4, 3, 0, 0, 0), none, none, some (.iconst 0, 1, 0, 0, 0), some (.ireturn, 1, 1, 0, 0)]]
noncomputable def tb_3 : List (List (Option INS)) := [[some (.aload_n 0, 1, 0, 0, 0), some (.iconst 0, 1, 0, 0, 0), some (.putfield 33, 3, 0, 7, 89), none, none, some (.aload_n 0, 1, 0, 0, 0), some (.iconst 0, 1, 0, 0, 0), some (.putfield 37, 3, 0, 8, 91), none, none, some (.aload_n 0, 1, 0, 0, 0), some (.iconst 0, 1, 0, 0, 0), some (.putfield 40, 3, 0, 9, 93), none, none, some (.return_, 1, 0, 0, 0)]]
noncomputable def tb_4 : List (List (Option INS)) := [[some (.aload_n 0, 1, 0, 0, 0), some (.getfield 33, 3, 0, 7, 89), none, none, some (.bipush 6, 2, 0, 0, 0), none, some (.if_icmp .ge 43, 3, 0, 0, 0), none, none, some (.aload_n 0, 1, 0, 0, 0), some (.getfield 11, 3, 0, 0, 79), none, none, some (.aload_n 0, 1, 0, 0, 0), some (.getfield 33, 3, 0, 7, 89), none],
  [none, some (.iload_n 1, 1, 0, 0, 0), some (.iastore, 1, 0, 0, 0), some (.aload_n 0, 1, 0, 0, 0), some (.getfield 15, 3, 0, 1, 81), none, none, some (.aload_n 0, 1, 0, 0, 0), some (.getfield 33, 3, 0, 7, 89), none, none, some (.iload_n 2, 1, 0, 0, 0), some (.iastore, 1, 0, 0, 0), some (.aload_n 0, 1, 0, 0, 0), some (.getfield 18, 3, 0, 2, 83), none],
  [none, some (.aload_n 0, 1, 0, 0, 0), some (.getfield 33, 3, 0, 7, 89), none, none, some (.iload_n 3, 1, 0, 0, 0), some (.iastore, 1, 0, 0, 0), some (.aload_n 0, 1, 0, 0, 0), some (.dup, 1, 0, 0, 0), some (.getfield 33, 3, 0, 7, 89), none, none, some (.iconst 1, 1, 0, 0, 0), some (.iadd, 1, 0, 0, 0), some (.putfield 33, 3, 0, 7, 89), none],
  [none, some (.return_, 1, 0, 0, 0)]]
noncomputable def tb_5_0 : List (List (Option INS)) := [[some (.aload_n 0, 1, 0, 0, 0), some (.aload_n 1, 1, 0, 0, 0), some (.getfield 33, 3, 0, 7, 89), none, none, some (.putfield 33, 3, 0, 7, 89), none, none, some (.aload_n 0, 1, 0, 0, 0), some (.aload_n 1, 1, 0, 0, 0), some (.getfield 37, 3, 0, 8, 91), none, none, some (.putfield 37, 3, 0, 8, 91), none, none],
  [some (.aload_n 0, 1, 0, 0, 0), some (.aload_n 1, 1, 0, 0, 0), some (.getfield 40, 3, 0, 9, 93), none, none, some (.putfield 40, 3, 0, 9, 93), none, none, some (.aload_n 1, 1, 0, 0, 0), some (.getfield 11, 3, 0, 0, 79), none, none, some (.iconst 0, 1, 0, 0, 0), some (.aload_n 0, 1, 0, 0, 0), some (.getfield 11, 3, 0, 0, 79), none],
  [none, some (.iconst 0, 1, 0, 0, 0), some (.bipush 6, 2, 0, 0, 0), none, some (.invokestatic 43, 3, 9999, 417, 0), none, none, some (.aload_n 1, 1, 0, 0, 0), some (.getfield 15, 3, 0, 1, 81), none, none, some (.iconst 0, 1, 0, 0, 0), some (.aload_n 0, 1, 0, 0, 0), some (.getfield 15, 3, 0, 1, 81), none, none],
  [some (.iconst 0, 1, 0, 0, 0), some (.bipush 6, 2, 0, 0, 0), none, some (.invokestatic 43, 3, 9999, 417, 0), none, none, some (.aload_n 1, 1, 0, 0, 0), some (.getfield 18, 3, 0, 2, 83), none, none, some (.iconst 0, 1, 0, 0, 0), some (.aload_n 0, 1, 0, 0, 0), some (.getfield 18, 3, 0, 2, 83), none, none, some (.iconst 0, 1, 0, 0, 0)]]
noncomputable def tb_5_1 : List (List (Option INS)) := [[some (.bipush 6, 2, 0, 0, 0), none, some (.invokestatic 43, 3, 9999, 417, 0), none, none, some (.aload_n 1, 1, 0, 0, 0), some (.getfield 21, 3, 0, 3, 85), none, none, some (.iconst 0, 1, 0, 0, 0), some (.aload_n 0, 1, 0, 0, 0), some (.getfield 21, 3, 0, 3, 85), none, none, some (.iconst 0, 1, 0, 0, 0), some (.bipush 40, 2, 0, 0, 0)],
  [none, some (.invokestatic 43, 3, 9999, 417, 0), none, none, some (.aload_n 1, 1, 0, 0, 0), some (.getfield 24, 3, 0, 4, 86), none, none, some (.iconst 0, 1, 0, 0, 0), some (.aload_n 0, 1, 0, 0, 0), some (.getfield 24, 3, 0, 4, 86), none, none, some (.iconst 0, 1, 0, 0, 0), some (.bipush 40, 2, 0, 0, 0), none],
  [some (.invokestatic 43, 3, 9999, 417, 0), none, none, some (.aload_n 1, 1, 0, 0, 0), some (.getfield 27, 3, 0, 5, 87), none, none, some (.iconst 0, 1, 0, 0, 0), some (.aload_n 0, 1, 0, 0, 0), some (.getfield 27, 3, 0, 5, 87), none, none, some (.iconst 0, 1, 0, 0, 0), some (.bipush 40, 2, 0, 0, 0), none, some (.invokestatic 43, 3, 9999, 417, 0)],
  [none, none, some (.aload_n 1, 1, 0, 0, 0), some (.getfield 30, 3, 0, 6, 88), none, none, some (.iconst 0, 1, 0, 0, 0), some (.aload_n 0, 1, 0, 0, 0), some (.getfield 30, 3, 0, 6, 88), none, none, some (.iconst 0, 1, 0, 0, 0), some (.bipush 40, 2, 0, 0, 0), none, some (.invokestatic 43, 3, 9999, 417, 0), none]]
noncomputable def tb_5_2 : List (List (Option INS)) := [[none, some (.return_, 1, 0, 0, 0)]]
noncomputable def tb_5 : List (List (Option INS)) := tb_5_0 ++ (tb_5_1 ++ (tb_5_2))
noncomputable def tb_6 : List (List (Option INS)) := [[some (.iload_n 1, 1, 0, 0, 0), some (.bipush 40, 2, 0, 0, 0), none, some (.aload_n 0, 1, 0, 0, 0), some (.getfield 40, 3, 0, 9, 93), none, none, some (.isub, 1, 0, 0, 0), some (.if_icmp .gt 7, 3, 0, 0, 0), none, none, some (.iconst 1, 1, 0, 0, 0), some (.goto 4, 3, 0, 0, 0), none, none, some (.iconst 0, 1, 0, 0, 0)],
  [some (.ireturn, 1, 1, 0, 0)]]
noncomputable def tb_7_0 : List (List (Option INS)) := [[some (.aload_n 0, 1, 0, 0, 0), some (.getfield 40, 3, 0, 9, 93), none, none, some (.bipush 40, 2, 0, 0, 0), none, some (.if_icmp .ge 66, 3, 0, 0, 0), none, none, some (.aload_n 0, 1, 0, 0, 0), some (.getfield 21, 3, 0, 3, 85), none, none, some (.aload_n 0, 1, 0, 0, 0), some (.getfield 40, 3, 0, 9, 93), none],
  [none, some (.iload_n 1, 1, 0, 0, 0), some (.iastore, 1, 0, 0, 0), some (.aload_n 0, 1, 0, 0, 0), some (.getfield 24, 3, 0, 4, 86), none, none, some (.aload_n 0, 1, 0, 0, 0), some (.getfield 40, 3, 0, 9, 93), none, none, some (.aload_n 0, 1, 0, 0, 0), some (.getfield 15, 3, 0, 1, 81), none, none, some (.iload_n 1, 1, 0, 0, 0)],
  [some (.iaload, 1, 0, 0, 0), some (.iastore, 1, 0, 0, 0), some (.aload_n 0, 1, 0, 0, 0), some (.getfield 27, 3, 0, 5, 87), none, none, some (.aload_n 0, 1, 0, 0, 0), some (.getfield 40, 3, 0, 9, 93), none, none, some (.aload_n 0, 1, 0, 0, 0), some (.getfield 18, 3, 0, 2, 83), none, none, some (.iload_n 1, 1, 0, 0, 0), some (.iaload, 1, 0, 0, 0)],
  [some (.iastore, 1, 0, 0, 0), some (.aload_n 0, 1, 0, 0, 0), some (.getfield 30, 3, 0, 6, 88), none, none, some (.aload_n 0, 1, 0, 0, 0), some (.getfield 40, 3, 0, 9, 93), none, none, some (.aload_n 0, 1, 0, 0, 0), some (.getfield 37, 3, 0, 8, 91), none, none, some (.iastore, 1, 0, 0, 0), some (.aload_n 0, 1, 0, 0, 0), some (.dup, 1, 0, 0, 0)]]
noncomputable def tb_7_1 : List (List (Option INS)) := [[some (.getfield 40, 3, 0, 9, 93), none, none, some (.iconst 1, 1, 0, 0, 0), some (.iadd, 1, 0, 0, 0), some (.putfield 40, 3, 0, 9, 93), none, none, some (.return_, 1, 0, 0, 0)]]
noncomputable def tb_7 : List (List (Option INS)) := tb_7_0 ++ (tb_7_1)
noncomputable def tb_8_0 : List (List (Option INS)) := [[some (.aload_n 0, 1, 0, 0, 0), some (.iload_n 1, 1, 0, 0, 0), some (.invokevirtual 49, 3, 7, 379, 0), none, none, some (.aload_n 0, 1, 0, 0, 0), some (.getfield 11, 3, 0, 0, 79), none, none, some (.iload_n 1, 1, 0, 0, 0), some (.iaload, 1, 0, 0, 0), some (.aload_n 0, 1, 0, 0, 0), some (.getfield 15, 3, 0, 1, 81), none, none, some (.iload_n 1, 1, 0, 0, 0)],
  [some (.iaload, 1, 0, 0, 0), some (.iload_n 2, 1, 0, 0, 0), some (.aload_n 0, 1, 0, 0, 0), some (.getfield 37, 3, 0, 8, 91), none, none, some (.invokestatic 53, 3, 23, 383, 0), none, none, some (.istore_n 3, 1, 0, 0, 0), some (.aload_n 0, 1, 0, 0, 0), some (.dup, 1, 0, 0, 0), some (.getfield 37, 3, 0, 8, 91), none, none, some (.iconst 1, 1, 0, 0, 0)],
  [some (.iadd, 1, 0, 0, 0), some (.putfield 37, 3, 0, 8, 91), none, none, some (.iload_n 3, 1, 0, 0, 0), some (.iconst (-1), 1, 0, 0, 0), some (.if_icmp .ne 5, 3, 0, 0, 0), none, none, some (.iconst 0, 1, 0, 0, 0), some (.ireturn, 1, 1, 0, 0), some (.aload_n 0, 1, 0, 0, 0), some (.getfield 15, 3, 0, 1, 81), none, none, some (.iload_n 1, 1, 0, 0, 0)],
  [some (.iload_n 3, 1, 0, 0, 0), some (.iastore, 1, 0, 0, 0), some (.aload_n 0, 1, 0, 0, 0), some (.getfield 18, 3, 0, 2, 83), none, none, some (.iload_n 1, 1, 0, 0, 0), some (.iconst 1, 1, 0, 0, 0), some (.aload_n 0, 1, 0, 0, 0), some (.getfield 18, 3, 0, 2, 83), none, none, some (.iload_n 1, 1, 0, 0, 0), some (.iaload, 1, 0, 0, 0), some (.isub, 1, 0, 0, 0), some (.iastore, 1, 0, 0, 0)]]
noncomputable def tb_8_1 : List (List (Option INS)) := [[some (.iconst 1, 1, 0, 0, 0), some (.ireturn, 1, 1, 0, 0)]]
noncomputable def tb_8 : List (List (Option INS)) := tb_8_0 ++ (tb_8_1)
noncomputable def tb_9 : List (List (Option INS)) := [[some (.aload_n 0, 1, 0, 0, 0), some (.iload_n 1, 1, 0, 0, 0), some (.invokevirtual 49, 3, 7, 379, 0), none, none, some (.aload_n 0, 1, 0, 0, 0), some (.getfield 15, 3, 0, 1, 81), none, none, some (.iload_n 1, 1, 0, 0, 0), some (.dup2, 1, 0, 0, 0), some (.iaload, 1, 0, 0, 0), some (.iload_n 3, 1, 0, 0, 0), some (.aload_n 0, 1, 0, 0, 0), some (.getfield 15, 3, 0, 1, 81), none],
  [none, some (.iload_n 1, 1, 0, 0, 0), some (.iaload, 1, 0, 0, 0), some (.iload_n 2, 1, 0, 0, 0), some (.invokestatic 59, 3, 28, 392, 0), none, none, some (.isub, 1, 0, 0, 0), some (.iload_n 2, 1, 0, 0, 0), some (.invokestatic 65, 3, 27, 393, 0), none, none, some (.imul, 1, 0, 0, 0), some (.iadd, 1, 0, 0, 0), some (.iastore, 1, 0, 0, 0), some (.return_, 1, 0, 0, 0)]]
noncomputable def tb_10 : List (List (Option INS)) := [[some (.aload_n 0, 1, 0, 0, 0), some (.getfield 33, 3, 0, 7, 89), none, none, some (.ifCond .ne 4, 3, 0, 0, 0), none, none, some (.return_, 1, 0, 0, 0), some (.iload_n 1, 1, 0, 0, 0), some (.aload_n 0, 1, 0, 0, 0), some (.getfield 33, 3, 0, 7, 89), none, none, some (.irem, 1, 0, 0, 0), some (.istore_n 2, 1, 0, 0, 0), some (.iload_n 1, 1, 0, 0, 0)],
  [some (.bipush 8, 2, 0, 0, 0), none, some (.idiv, 1, 0, 0, 0), some (.bipush 8, 2, 0, 0, 0), none, some (.irem, 1, 0, 0, 0), some (.bipush 7, 2, 0, 0, 0), none, some (.if_icmp .ne 25, 3, 0, 0, 0), none, none, some (.aload_n 0, 1, 0, 0, 0), some (.iload_n 2, 1, 0, 0, 0), some (.iload_n 1, 1, 0, 0, 0), some (.bipush 64, 2, 0, 0, 0), none],
  [some (.idiv, 1, 0, 0, 0), some (.iconst 3, 1, 0, 0, 0), some (.irem, 1, 0, 0, 0), some (.iload_n 1, 1, 0, 0, 0), some (.sipush 256, 3, 0, 0, 0), none, none, some (.idiv, 1, 0, 0, 0), some (.bipush 10, 2, 0, 0, 0), none, some (.irem, 1, 0, 0, 0), some (.invokevirtual 69, 3, 9, 581, 0), none, none, some (.goto 16, 3, 0, 0, 0), none],
  [none, some (.aload_n 0, 1, 0, 0, 0), some (.iload_n 2, 1, 0, 0, 0), some (.iload_n 1, 1, 0, 0, 0), some (.bipush 8, 2, 0, 0, 0), none, some (.idiv, 1, 0, 0, 0), some (.bipush 7, 2, 0, 0, 0), none, some (.irem, 1, 0, 0, 0), some (.invokevirtual 73, 3, 8, 582, 0), none, none, some (.pop, 1, 0, 0, 0), some (.return_, 1, 0, 0, 0)]]
noncomputable def tb_11_0 : List (List (Option INS)) := [[some (.aload_n 0, 1, 0, 0, 0), some (.getfield 40, 3, 0, 9, 93), none, none, some (.iload_n 1, 1, 0, 0, 0), some (.isub, 1, 0, 0, 0), some (.istore_n 2, 1, 0, 0, 0), some (.aload_n 0, 1, 0, 0, 0), some (.getfield 40, 3, 0, 9, 93), none, none, some (.iconst 1, 1, 0, 0, 0), some (.isub, 1, 0, 0, 0), some (.istore_n 3, 1, 0, 0, 0), some (.iload_n 3, 1, 0, 0, 0), some (.iload_n 1, 1, 0, 0, 0)],
  [some (.if_icmp .lt 53, 3, 0, 0, 0), none, none, some (.aload_n 0, 1, 0, 0, 0), some (.getfield 21, 3, 0, 3, 85), none, none, some (.iload_n 3, 1, 0, 0, 0), some (.iaload, 1, 0, 0, 0), some (.istore 4, 2, 0, 0, 0), none, some (.aload_n 0, 1, 0, 0, 0), some (.getfield 15, 3, 0, 1, 81), none, none, some (.iload 4, 2, 0, 0, 0)],
  [none, some (.aload_n 0, 1, 0, 0, 0), some (.getfield 24, 3, 0, 4, 86), none, none, some (.iload_n 3, 1, 0, 0, 0), some (.iaload, 1, 0, 0, 0), some (.iastore, 1, 0, 0, 0), some (.aload_n 0, 1, 0, 0, 0), some (.getfield 18, 3, 0, 2, 83), none, none, some (.iload 4, 2, 0, 0, 0), none, some (.aload_n 0, 1, 0, 0, 0), some (.getfield 27, 3, 0, 5, 87)],
  [none, none, some (.iload_n 3, 1, 0, 0, 0), some (.iaload, 1, 0, 0, 0), some (.iastore, 1, 0, 0, 0), some (.aload_n 0, 1, 0, 0, 0), some (.aload_n 0, 1, 0, 0, 0), some (.getfield 30, 3, 0, 6, 88), none, none, some (.iload_n 3, 1, 0, 0, 0), some (.iaload, 1, 0, 0, 0), some (.putfield 37, 3, 0, 8, 91), none, none, some (.iinc 3 (-1), 3, 0, 0, 0)]]
noncomputable def tb_11_1 : List (List (Option INS)) := [[none, none, some (.goto (-52), 3, 0, 0, 0), none, none, some (.aload_n 0, 1, 0, 0, 0), some (.iload_n 1, 1, 0, 0, 0), some (.putfield 40, 3, 0, 9, 93), none, none, some (.iload_n 2, 1, 0, 0, 0), some (.ireturn, 1, 0, 0, 0)]]
noncomputable def tb_11 : List (List (Option INS)) := tb_11_0 ++ (tb_11_1)
noncomputable def tb_12 : List (List (Option INS)) := [[some (.iconst 0, 1, 0, 0, 0), some (.istore_n 1, 1, 0, 0, 0), some (.iconst 0, 1, 0, 0, 0), some (.istore_n 2, 1, 0, 0, 0), some (.iload_n 2, 1, 0, 0, 0), some (.aload_n 0, 1, 0, 0, 0), some (.getfield 33, 3, 0, 7, 89), none, none, some (.if_icmp .ge 20, 3, 0, 0, 0), none, none, some (.iload_n 1, 1, 0, 0, 0), some (.aload_n 0, 1, 0, 0, 0), some (.getfield 18, 3, 0, 2, 83), none],
  [none, some (.iload_n 2, 1, 0, 0, 0), some (.iaload, 1, 0, 0, 0), some (.iload_n 2, 1, 0, 0, 0), some (.ishl, 1, 0, 0, 0), some (.ior, 1, 0, 0, 0), some (.istore_n 1, 1, 0, 0, 0), some (.iinc 2 1, 3, 0, 0, 0), none, none, some (.goto (-22), 3, 0, 0, 0), none, none, some (.iload_n 1, 1, 0, 0, 0), some (.ireturn, 1, 0, 0, 0)]]
noncomputable def tb_13 : List (List (Option INS)) := [[some (.iconst 0, 1, 0, 0, 0), some (.istore_n 2, 1, 0, 0, 0), some (.iconst 0, 1, 0, 0, 0), some (.istore_n 3, 1, 0, 0, 0), some (.iload_n 3, 1, 0, 0, 0), some (.aload_n 0, 1, 0, 0, 0), some (.getfield 33, 3, 0, 7, 89), none, none, some (.if_icmp .ge 37, 3, 0, 0, 0), none, none, some (.iload_n 2, 1, 0, 0, 0), some (.iload_n 3, 1, 0, 0, 0), some (.iload_n 1, 1, 0, 0, 0), some (.if_icmp .eq 22, 3, 0, 0, 0)],
  [none, none, some (.aload_n 0, 1, 0, 0, 0), some (.getfield 18, 3, 0, 2, 83), none, none, some (.iload_n 3, 1, 0, 0, 0), some (.iaload, 1, 0, 0, 0), some (.aload_n 0, 1, 0, 0, 0), some (.getfield 18, 3, 0, 2, 83), none, none, some (.iload_n 1, 1, 0, 0, 0), some (.iaload, 1, 0, 0, 0), some (.if_icmp .ne 7, 3, 0, 0, 0), none],
  [none, some (.iconst 1, 1, 0, 0, 0), some (.goto 4, 3, 0, 0, 0), none, none, some (.iconst 0, 1, 0, 0, 0), some (.iadd, 1, 0, 0, 0), some (.istore_n 2, 1, 0, 0, 0), some (.iinc 3 1, 3, 0, 0, 0), none, none, some (.goto (-39), 3, 0, 0, 0), none, none, some (.iload_n 2, 1, 0, 0, 0), some (.ireturn, 1, 0, 0, 0)]]
noncomputable def tb_14 : List (List (Option INS)) := [[some (.iconst 0, 1, 0, 0, 0), some (.istore_n 2, 1, 0, 0, 0), some (.iconst 0, 1, 0, 0, 0), some (.istore_n 3, 1, 0, 0, 0), some (.iload_n 3, 1, 0, 0, 0), some (.aload_n 0, 1, 0, 0, 0), some (.getfield 33, 3, 0, 7, 89), none, none, some (.if_icmp .ge 30, 3, 0, 0, 0), none, none, some (.iload_n 2, 1, 0, 0, 0), some (.aload_n 0, 1, 0, 0, 0), some (.getfield 11, 3, 0, 0, 79), none],
  [none, some (.iload_n 3, 1, 0, 0, 0), some (.iaload, 1, 0, 0, 0), some (.iload_n 1, 1, 0, 0, 0), some (.invokestatic 77, 3, 19, 607, 0), none, none, some (.ifCond .eq 7, 3, 0, 0, 0), none, none, some (.iconst 1, 1, 0, 0, 0), some (.goto 4, 3, 0, 0, 0), none, none, some (.iconst 0, 1, 0, 0, 0), some (.iadd, 1, 0, 0, 0)],
  [some (.istore_n 2, 1, 0, 0, 0), some (.iinc 3 1, 3, 0, 0, 0), none, none, some (.goto (-32), 3, 0, 0, 0), none, none, some (.iload_n 2, 1, 0, 0, 0), some (.ireturn, 1, 0, 0, 0)]]
noncomputable def tb_15 : List (List (Option INS)) := [[some (.iconst 1, 1, 0, 0, 0), some (.aload_n 0, 1, 0, 0, 0), some (.getfield 33, 3, 0, 7, 89), none, none, some (.ishl, 1, 0, 0, 0), some (.ireturn, 1, 0, 0, 0)]]
noncomputable def tb_16 : List (List (Option INS)) := [[some (.iconst 0, 1, 0, 0, 0), some (.istore_n 2, 1, 0, 0, 0), some (.iconst 0, 1, 0, 0, 0), some (.istore_n 3, 1, 0, 0, 0), some (.iload_n 3, 1, 0, 0, 0), some (.aload_n 0, 1, 0, 0, 0), some (.getfield 33, 3, 0, 7, 89), none, none, some (.if_icmp .ge 35, 3, 0, 0, 0), none, none, some (.iload_n 1, 1, 0, 0, 0), some (.iload_n 3, 1, 0, 0, 0), some (.ishr, 1, 0, 0, 0), some (.iconst 1, 1, 0, 0, 0)],
  [some (.iand, 1, 0, 0, 0), some (.ifCond .eq 21, 3, 0, 0, 0), none, none, some (.iload_n 2, 1, 0, 0, 0), some (.aload_n 0, 1, 0, 0, 0), some (.getfield 11, 3, 0, 0, 79), none, none, some (.iload_n 3, 1, 0, 0, 0), some (.iaload, 1, 0, 0, 0), some (.aload_n 0, 1, 0, 0, 0), some (.getfield 15, 3, 0, 1, 81), none, none, some (.iload_n 3, 1, 0, 0, 0)],
  [some (.iaload, 1, 0, 0, 0), some (.invokestatic 80, 3, 26, 506, 0), none, none, some (.iadd, 1, 0, 0, 0), some (.istore_n 2, 1, 0, 0, 0), some (.iinc 3 1, 3, 0, 0, 0), none, none, some (.goto (-37), 3, 0, 0, 0), none, none, some (.iload_n 2, 1, 0, 0, 0), some (.ireturn, 1, 0, 0, 0)]]
noncomputable def tb_17 : List (List (Option INS)) := [[some (.iconst 0, 1, 0, 0, 0), some (.istore_n 1, 1, 0, 0, 0), some (.iconst 0, 1, 0, 0, 0), some (.istore_n 2, 1, 0, 0, 0), some (.iload_n 2, 1, 0, 0, 0), some (.aload_n 0, 1, 0, 0, 0), some (.getfield 33, 3, 0, 7, 89), none, none, some (.if_icmp .ge 29, 3, 0, 0, 0), none, none, some (.iload_n 1, 1, 0, 0, 0), some (.aload_n 0, 1, 0, 0, 0), some (.getfield 11, 3, 0, 0, 79), none],
  [none, some (.iload_n 2, 1, 0, 0, 0), some (.iaload, 1, 0, 0, 0), some (.aload_n 0, 1, 0, 0, 0), some (.getfield 15, 3, 0, 1, 81), none, none, some (.iload_n 2, 1, 0, 0, 0), some (.iaload, 1, 0, 0, 0), some (.invokestatic 80, 3, 26, 506, 0), none, none, some (.invokestatic 83, 3, 9997, 507, 0), none, none, some (.istore_n 1, 1, 0, 0, 0)],
  [some (.iinc 2 1, 3, 0, 0, 0), none, none, some (.goto (-31), 3, 0, 0, 0), none, none, some (.iload_n 1, 1, 0, 0, 0), some (.ireturn, 1, 0, 0, 0)]]
noncomputable def tb_18_0 : List (List (Option INS)) := [[some (.iload_n 0, 1, 0, 0, 0), some (.lookupswitch 71 #[(98, 61), (99, 69), (108, 63), (112, 59), (115, 67), (119, 65)], 59, 0, 0, 0), none, none, none, none, none, none, none, none, none, none, none, none, none, none],
  [none, none, none, none, none, none, none, none, none, none, none, none, none, none, none, none],
  [none, none, none, none, none, none, none, none, none, none, none, none, none, none, none, none],
  [none, none, none, none, none, none, none, none, none, none, none, none, some (.iconst 0, 1, 0, 0, 0), some (.ireturn, 1, 0, 0, 0), some (.iconst 1, 1, 0, 0, 0), some (.ireturn, 1, 0, 0, 0)]]
noncomputable def tb_18_1 : List (List (Option INS)) := [[some (.iconst 2, 1, 0, 0, 0), some (.ireturn, 1, 0, 0, 0), some (.iconst 3, 1, 0, 0, 0), some (.ireturn, 1, 0, 0, 0), some (.iconst 4, 1, 0, 0, 0), some (.ireturn, 1, 0, 0, 0), some (.iconst 5, 1, 0, 0, 0), some (.ireturn, 1, 0, 0, 0), some (.bipush (-9), 2, 0, 0, 0), none, some (.ireturn, 1, 0, 0, 0)]]
noncomputable def tb_18 : List (List (Option INS)) := tb_18_0 ++ (tb_18_1)
noncomputable def tb_19 : List (List (Option INS)) := [[some (.iload_n 0, 1, 0, 0, 0), some (.iload_n 1, 1, 0, 0, 0), some (.if_icmp .eq 27, 3, 0, 0, 0), none, none, some (.iload_n 1, 1, 0, 0, 0), some (.ifCond .eq 23, 3, 0, 0, 0), none, none, some (.iload_n 0, 1, 0, 0, 0), some (.iconst 4, 1, 0, 0, 0), some (.if_icmp .ne 8, 3, 0, 0, 0), none, none, some (.iload_n 1, 1, 0, 0, 0), some (.iconst 1, 1, 0, 0, 0)],
  [some (.if_icmp .eq 13, 3, 0, 0, 0), none, none, some (.iload_n 0, 1, 0, 0, 0), some (.iconst 5, 1, 0, 0, 0), some (.if_icmp .ne 12, 3, 0, 0, 0), none, none, some (.iload_n 1, 1, 0, 0, 0), some (.iconst 2, 1, 0, 0, 0), some (.if_icmp .ne 7, 3, 0, 0, 0), none, none, some (.iconst 1, 1, 0, 0, 0), some (.goto 4, 3, 0, 0, 0), none],
  [none, some (.iconst 0, 1, 0, 0, 0), some (.ireturn, 1, 1, 0, 0)]]
noncomputable def tb_20 : List (List (Option INS)) := [[some (.iload_n 0, 1, 0, 0, 0), some (.iconst 1, 1, 0, 0, 0), some (.if_icmp .eq 14, 3, 0, 0, 0), none, none, some (.iload_n 0, 1, 0, 0, 0), some (.iconst 4, 1, 0, 0, 0), some (.if_icmp .ne 13, 3, 0, 0, 0), none, none, some (.iload_n 1, 1, 0, 0, 0), some (.iconst 2, 1, 0, 0, 0), some (.irem, 1, 0, 0, 0), some (.ifCond .ne 7, 3, 0, 0, 0), none, none],
  [some (.iconst 2, 1, 0, 0, 0), some (.goto 4, 3, 0, 0, 0), none, none, some (.iconst 1, 1, 0, 0, 0), some (.ireturn, 1, 0, 0, 0)]]
noncomputable def tb_21 : List (List (Option INS)) := [[some (.iload_n 1, 1, 0, 0, 0), some (.ifCond .ne 5, 3, 0, 0, 0), none, none, some (.iconst 0, 1, 0, 0, 0), some (.ireturn, 1, 0, 0, 0), some (.iload_n 1, 1, 0, 0, 0), some (.iconst 1, 1, 0, 0, 0), some (.isub, 1, 0, 0, 0), some (.iconst 2, 1, 0, 0, 0), some (.idiv, 1, 0, 0, 0), some (.istore_n 2, 1, 0, 0, 0), some (.iload_n 0, 1, 0, 0, 0), some (.iconst 3, 1, 0, 0, 0), some (.if_icmp .ne 11, 3, 0, 0, 0), none],
  [none, some (.iload_n 2, 1, 0, 0, 0), some (.iconst 1, 1, 0, 0, 0), some (.iadd, 1, 0, 0, 0), some (.iconst 3, 1, 0, 0, 0), some (.irem, 1, 0, 0, 0), some (.goto 4, 3, 0, 0, 0), none, none, some (.iload_n 2, 1, 0, 0, 0), some (.ireturn, 1, 0, 0, 0)]]
noncomputable def tb_22 : List (List (Option INS)) := [[some (.iload_n 1, 1, 0, 0, 0), some (.ifCond .ne 5, 3, 0, 0, 0), none, none, some (.iconst 0, 1, 0, 0, 0), some (.ireturn, 1, 0, 0, 0), some (.iload_n 1, 1, 0, 0, 0), some (.iconst 2, 1, 0, 0, 0), some (.irem, 1, 0, 0, 0), some (.iconst 1, 1, 0, 0, 0), some (.if_icmp .ne 7, 3, 0, 0, 0), none, none, some (.iconst 1, 1, 0, 0, 0), some (.goto 4, 3, 0, 0, 0), none],
  [none, some (.iconst 0, 1, 0, 0, 0), some (.istore_n 3, 1, 0, 0, 0), some (.iload_n 0, 1, 0, 0, 0), some (.iconst 2, 1, 0, 0, 0), some (.invokestatic 13, 3, 19, 318, 0), none, none, some (.ifCond .eq 15, 3, 0, 0, 0), none, none, some (.iload_n 3, 1, 0, 0, 0), some (.ifCond .ne 7, 3, 0, 0, 0), none, none, some (.iconst 1, 1, 0, 0, 0)],
  [some (.goto 8, 3, 0, 0, 0), none, none, some (.iconst 0, 1, 0, 0, 0), some (.goto 4, 3, 0, 0, 0), none, none, some (.iload_n 3, 1, 0, 0, 0), some (.istore 4, 2, 0, 0, 0), none, some (.iload 4, 2, 0, 0, 0), none, some (.ifCond .eq 11, 3, 0, 0, 0), none, none, some (.iload_n 0, 1, 0, 0, 0)],
  [some (.iload_n 2, 1, 0, 0, 0), some (.invokestatic 17, 3, 20, 333, 0), none, none, some (.goto 9, 3, 0, 0, 0), none, none, some (.iload_n 0, 1, 0, 0, 0), some (.iload_n 2, 1, 0, 0, 0), some (.invokestatic 17, 3, 20, 333, 0), none, none, some (.ineg, 1, 0, 0, 0), some (.ireturn, 1, 0, 0, 0)]]
noncomputable def tb_23_0 : List (List (Option INS)) := [[some (.iload_n 2, 1, 0, 0, 0), some (.ifCond .ne 14, 3, 0, 0, 0), none, none, some (.iload_n 0, 1, 0, 0, 0), some (.iconst 5, 1, 0, 0, 0), some (.if_icmp .ne 7, 3, 0, 0, 0), none, none, some (.iload_n 1, 1, 0, 0, 0), some (.goto 4, 3, 0, 0, 0), none, none, some (.iconst (-1), 1, 0, 0, 0), some (.ireturn, 1, 0, 0, 0), some (.iload_n 0, 1, 0, 0, 0)],
  [some (.iload_n 2, 1, 0, 0, 0), some (.invokestatic 21, 3, 21, 327, 0), none, none, some (.istore 4, 2, 0, 0, 0), none, some (.iload_n 0, 1, 0, 0, 0), some (.iload_n 2, 1, 0, 0, 0), some (.iload_n 3, 1, 0, 0, 0), some (.invokestatic 24, 3, 22, 330, 0), none, none, some (.istore 5, 2, 0, 0, 0), none, some (.iload_n 1, 1, 0, 0, 0), some (.iload 4, 2, 0, 0, 0)],
  [none, some (.invokestatic 28, 3, 28, 336, 0), none, none, some (.iload 5, 2, 0, 0, 0), none, some (.iadd, 1, 0, 0, 0), some (.istore 6, 2, 0, 0, 0), none, some (.iload 6, 2, 0, 0, 0), none, some (.ifCond .lt 10, 3, 0, 0, 0), none, none, some (.iload 6, 2, 0, 0, 0), none],
  [some (.bipush 9, 2, 0, 0, 0), none, some (.if_icmp .le 5, 3, 0, 0, 0), none, none, some (.iconst (-1), 1, 0, 0, 0), some (.ireturn, 1, 0, 0, 0), some (.iload_n 1, 1, 0, 0, 0), some (.iload 5, 2, 0, 0, 0), none, some (.iload 4, 2, 0, 0, 0), none, some (.invokestatic 31, 3, 27, 342, 0), none, none, some (.imul, 1, 0, 0, 0)]]
noncomputable def tb_23_1 : List (List (Option INS)) := [[some (.iadd, 1, 0, 0, 0), some (.ireturn, 1, 0, 0, 0)]]
noncomputable def tb_23 : List (List (Option INS)) := tb_23_0 ++ (tb_23_1)
noncomputable def tb_24 : List (List (Option INS)) := [[some (.iload_n 0, 1, 0, 0, 0), some (.iload_n 1, 1, 0, 0, 0), some (.iload_n 2, 1, 0, 0, 0), some (.iload_n 3, 1, 0, 0, 0), some (.invokestatic 35, 3, 23, 324, 0), none, none, some (.istore 4, 2, 0, 0, 0), none, some (.iload 4, 2, 0, 0, 0), none, some (.iconst (-1), 1, 0, 0, 0), some (.if_icmp .ne 7, 3, 0, 0, 0), none, none, some (.iload_n 1, 1, 0, 0, 0)],
  [some (.goto 5, 3, 0, 0, 0), none, none, some (.iload 4, 2, 0, 0, 0), none, some (.ireturn, 1, 0, 0, 0)]]
noncomputable def tb_25 : List (List (Option INS)) := [[some (.iconst 0, 1, 0, 0, 0), some (.istore_n 3, 1, 0, 0, 0), some (.iconst 0, 1, 0, 0, 0), some (.istore 4, 2, 0, 0, 0), none, some (.iload 4, 2, 0, 0, 0), none, some (.bipush 7, 2, 0, 0, 0), none, some (.if_icmp .ge 28, 3, 0, 0, 0), none, none, some (.iload_n 0, 1, 0, 0, 0), some (.iload_n 1, 1, 0, 0, 0), some (.iload 4, 2, 0, 0, 0), none],
  [some (.iload_n 2, 1, 0, 0, 0), some (.invokestatic 35, 3, 23, 324, 0), none, none, some (.iconst (-1), 1, 0, 0, 0), some (.if_icmp .eq 10, 3, 0, 0, 0), none, none, some (.iload_n 3, 1, 0, 0, 0), some (.iconst 1, 1, 0, 0, 0), some (.iload 4, 2, 0, 0, 0), none, some (.ishl, 1, 0, 0, 0), some (.ior, 1, 0, 0, 0), some (.istore_n 3, 1, 0, 0, 0), some (.iinc 4 1, 3, 0, 0, 0)],
  [none, none, some (.goto (-29), 3, 0, 0, 0), none, none, some (.iload_n 3, 1, 0, 0, 0), some (.ireturn, 1, 0, 0, 0)]]
noncomputable def tb_26 : List (List (Option INS)) := [[some (.iload_n 1, 1, 0, 0, 0), some (.invokestatic 39, 3, 29, 315, 0), none, none, some (.iload_n 0, 1, 0, 0, 0), some (.iconst 1, 1, 0, 0, 0), some (.invokestatic 13, 3, 19, 318, 0), none, none, some (.ifCond .eq 7, 3, 0, 0, 0), none, none, some (.iconst 1, 1, 0, 0, 0), some (.goto 4, 3, 0, 0, 0), none, none],
  [some (.iconst 0, 1, 0, 0, 0), some (.iadd, 1, 0, 0, 0), some (.ireturn, 1, 0, 0, 0)]]
noncomputable def tb_27 : List (List (Option INS)) := [[some (.iload_n 0, 1, 0, 0, 0), some (.ifCond .ne 8, 3, 0, 0, 0), none, none, some (.bipush 100, 2, 0, 0, 0), none, some (.goto 14, 3, 0, 0, 0), none, none, some (.iload_n 0, 1, 0, 0, 0), some (.iconst 1, 1, 0, 0, 0), some (.if_icmp .ne 8, 3, 0, 0, 0), none, none, some (.bipush 10, 2, 0, 0, 0), none],
  [some (.goto 4, 3, 0, 0, 0), none, none, some (.iconst 1, 1, 0, 0, 0), some (.ireturn, 1, 0, 0, 0)]]
noncomputable def tb_28 : List (List (Option INS)) := [[some (.iload_n 0, 1, 0, 0, 0), some (.iload_n 1, 1, 0, 0, 0), some (.invokestatic 7, 3, 27, 339, 0), none, none, some (.idiv, 1, 0, 0, 0), some (.bipush 10, 2, 0, 0, 0), none, some (.irem, 1, 0, 0, 0), some (.ireturn, 1, 0, 0, 0)]]
noncomputable def tb_29 : List (List (Option INS)) := [[some (.iload_n 0, 1, 0, 0, 0), some (.bipush 100, 2, 0, 0, 0), none, some (.idiv, 1, 0, 0, 0), some (.iload_n 0, 1, 0, 0, 0), some (.bipush 10, 2, 0, 0, 0), none, some (.idiv, 1, 0, 0, 0), some (.bipush 10, 2, 0, 0, 0), none, some (.irem, 1, 0, 0, 0), some (.iadd, 1, 0, 0, 0), some (.iload_n 0, 1, 0, 0, 0), some (.bipush 10, 2, 0, 0, 0), none, some (.irem, 1, 0, 0, 0)],
  [some (.iadd, 1, 0, 0, 0), some (.ireturn, 1, 0, 0, 0)]]
noncomputable def tb_30 : List (List (Option INS)) := [[some (.iconst 0, 1, 0, 0, 0), some (.istore_n 1, 1, 0, 0, 0), some (.iconst 1, 1, 0, 0, 0), some (.istore_n 2, 1, 0, 0, 0), some (.iload_n 2, 1, 0, 0, 0), some (.iconst 3, 1, 0, 0, 0), some (.if_icmp .ge 24, 3, 0, 0, 0), none, none, some (.iload_n 0, 1, 0, 0, 0), some (.iload_n 2, 1, 0, 0, 0), some (.invokestatic 13, 3, 28, 359, 0), none, none, some (.iload_n 0, 1, 0, 0, 0), some (.iload_n 1, 1, 0, 0, 0)],
  [some (.invokestatic 13, 3, 28, 359, 0), none, none, some (.if_icmp .ge 5, 3, 0, 0, 0), none, none, some (.iload_n 2, 1, 0, 0, 0), some (.istore_n 1, 1, 0, 0, 0), some (.iinc 2 1, 3, 0, 0, 0), none, none, some (.goto (-23), 3, 0, 0, 0), none, none, some (.iload_n 1, 1, 0, 0, 0), some (.ireturn, 1, 0, 0, 0)]]
noncomputable def tb_31 : List (List (Option INS)) := [[some (.iconst 0, 1, 0, 0, 0), some (.istore_n 2, 1, 0, 0, 0), some (.iload_n 2, 1, 0, 0, 0), some (.iconst 3, 1, 0, 0, 0), some (.if_icmp .ge 35, 3, 0, 0, 0), none, none, some (.iload_n 2, 1, 0, 0, 0), some (.aload_n 1, 1, 0, 0, 0), some (.arraylength, 1, 0, 0, 0), some (.if_icmp .ge 29, 3, 0, 0, 0), none, none, some (.aload_n 1, 1, 0, 0, 0), some (.iload_n 2, 1, 0, 0, 0), some (.iaload, 1, 0, 0, 0)],
  [some (.iconst (-1), 1, 0, 0, 0), some (.if_icmp .eq 16, 3, 0, 0, 0), none, none, some (.aload_n 1, 1, 0, 0, 0), some (.iload_n 2, 1, 0, 0, 0), some (.iaload, 1, 0, 0, 0), some (.iload_n 0, 1, 0, 0, 0), some (.iload_n 2, 1, 0, 0, 0), some (.invokestatic 13, 3, 28, 359, 0), none, none, some (.if_icmp .eq 5, 3, 0, 0, 0), none, none, some (.iconst 0, 1, 0, 0, 0)],
  [some (.ireturn, 1, 1, 0, 0), some (.iinc 2 1, 3, 0, 0, 0), none, none, some (.goto (-34), 3, 0, 0, 0), none, none, some (.iconst 1, 1, 0, 0, 0), some (.ireturn, 1, 1, 0, 0)]]
noncomputable def tb_32 : List (List (Option INS)) := [[some (.aload_n 0, 1, 0, 0, 0), some (.invokespecial 1, 3, 9998, 153, 0), none, none, some (.aload_n 0, 1, 0, 0, 0), some (.iconst (-1), 1, 0, 0, 0), some (.putfield 9, 3, 1, 1, 159), none, none, some (.aload_n 0, 1, 0, 0, 0), some (.iconst 0, 1, 0, 0, 0), some (.iload_n 1, 1, 0, 0, 0), some (.invokestatic 13, 3, 9997, 154, 0), none, none, some (.newarray .int, 2, 0, 0, 0)],
  [none, some (.putfield 19, 3, 1, 0, 157), none, none, some (.return_, 1, 0, 0, 0)]]
noncomputable def tb_33 : List (List (Option INS)) := [[some (.aload_n 0, 1, 0, 0, 0), some (.getfield 9, 3, 1, 1, 159), none, none, some (.ifCond .ge 7, 3, 0, 0, 0), none, none, some (.iconst 1, 1, 0, 0, 0), some (.goto 4, 3, 0, 0, 0), none, none, some (.iconst 0, 1, 0, 0, 0), some (.ireturn, 1, 1, 0, 0)]]
noncomputable def tb_34 : List (List (Option INS)) := [[some (.iload_n 1, 1, 0, 0, 0), some (.ifCond .lt 25, 3, 0, 0, 0), none, none, some (.iload_n 1, 1, 0, 0, 0), some (.aload_n 0, 1, 0, 0, 0), some (.getfield 9, 3, 1, 1, 159), none, none, some (.if_icmp .gt 17, 3, 0, 0, 0), none, none, some (.iload_n 2, 1, 0, 0, 0), some (.aload_n 0, 1, 0, 0, 0), some (.getfield 9, 3, 1, 1, 159), none],
  [none, some (.iload_n 1, 1, 0, 0, 0), some (.isub, 1, 0, 0, 0), some (.if_icmp .gt 7, 3, 0, 0, 0), none, none, some (.iconst 1, 1, 0, 0, 0), some (.goto 4, 3, 0, 0, 0), none, none, some (.iconst 0, 1, 0, 0, 0), some (.ireturn, 1, 1, 0, 0)]]
noncomputable def tb_35 : List (List (Option INS)) := [[some (.iload_n 1, 1, 0, 0, 0), some (.ifCond .lt 37, 3, 0, 0, 0), none, none, some (.iload_n 1, 1, 0, 0, 0), some (.aload_n 0, 1, 0, 0, 0), some (.getfield 19, 3, 1, 0, 157), none, none, some (.arraylength, 1, 0, 0, 0), some (.if_icmp .gt 28, 3, 0, 0, 0), none, none, some (.iconst 0, 1, 0, 0, 0), some (.istore_n 3, 1, 0, 0, 0), some (.iload_n 3, 1, 0, 0, 0)],
  [some (.iload_n 1, 1, 0, 0, 0), some (.if_icmp .ge 16, 3, 0, 0, 0), none, none, some (.aload_n 0, 1, 0, 0, 0), some (.getfield 19, 3, 1, 0, 157), none, none, some (.iload_n 3, 1, 0, 0, 0), some (.iload_n 2, 1, 0, 0, 0), some (.iastore, 1, 0, 0, 0), some (.iinc 3 1, 3, 0, 0, 0), none, none, some (.goto (-15), 3, 0, 0, 0), none],
  [none, some (.aload_n 0, 1, 0, 0, 0), some (.iload_n 1, 1, 0, 0, 0), some (.putfield 9, 3, 1, 1, 159), none, none, some (.return_, 1, 0, 0, 0)]]
noncomputable def tb_36 : List (List (Option INS)) := [[some (.ldc2_w 23, 3, 634, 0, 31), none, none, some (.lload_n 1, 1, 0, 0, 0), some (.lmul, 1, 0, 0, 0), some (.aload_n 0, 1, 0, 0, 0), some (.getfield 9, 3, 1, 1, 159), none, none, some (.i2l, 1, 0, 0, 0), some (.ladd, 1, 0, 0, 0), some (.lstore_n 3, 1, 0, 0, 0), some (.iconst 0, 1, 0, 0, 0), some (.istore 5, 2, 0, 0, 0), none, some (.iload 5, 2, 0, 0, 0)],
  [none, some (.aload_n 0, 1, 0, 0, 0), some (.getfield 9, 3, 1, 1, 159), none, none, some (.if_icmp .ge 24, 3, 0, 0, 0), none, none, some (.ldc2_w 23, 3, 634, 0, 31), none, none, some (.lload_n 3, 1, 0, 0, 0), some (.lmul, 1, 0, 0, 0), some (.aload_n 0, 1, 0, 0, 0), some (.getfield 19, 3, 1, 0, 157), none],
  [none, some (.iload 5, 2, 0, 0, 0), none, some (.iaload, 1, 0, 0, 0), some (.i2l, 1, 0, 0, 0), some (.ladd, 1, 0, 0, 0), some (.lstore_n 3, 1, 0, 0, 0), some (.iinc 5 1, 3, 0, 0, 0), none, none, some (.goto (-27), 3, 0, 0, 0), none, none, some (.lload_n 3, 1, 0, 0, 0), some (.lreturn, 1, 0, 0, 0)]]
noncomputable def tb_37 : List (List (Option INS)) := [[some (.aload_n 0, 1, 0, 0, 0), some (.invokespecial 3, 3, 9998, 123, 0), none, none, some (.aload_n 0, 1, 0, 0, 0), some (.iconst 4, 1, 0, 0, 0), some (.newarray .int, 2, 0, 0, 0), none, some (.putfield 9, 3, 2, 0, 124), none, none, some (.aload_n 0, 1, 0, 0, 0), some (.iconst 3, 1, 0, 0, 0), some (.newarray .int, 2, 0, 0, 0), none, some (.putfield 17, 3, 2, 1, 126)],
  [none, none, some (.aload_n 0, 1, 0, 0, 0), some (.iconst 0, 1, 0, 0, 0), some (.putfield 20, 3, 2, 2, 128), none, none, some (.aload_n 0, 1, 0, 0, 0), some (.iconst 0, 1, 0, 0, 0), some (.putfield 24, 3, 2, 3, 130), none, none, some (.aload_n 0, 1, 0, 0, 0), some (.iconst 0, 1, 0, 0, 0), some (.putfield 27, 3, 2, 4, 132), none],
  [none, some (.aload_n 0, 1, 0, 0, 0), some (.iconst (-1), 1, 0, 0, 0), some (.putfield 30, 3, 2, 5, 134), none, none, some (.return_, 1, 0, 0, 0)]]
noncomputable def tb_38_0 : List (List (Option INS)) := [[some (.aload_n 0, 1, 0, 0, 0), some (.invokespecial 1, 3, 9998, 68, 0), none, none, some (.aload_n 0, 1, 0, 0, 0), some (.bipush 6, 2, 0, 0, 0), none, some (.anewarray 9, 3, 3, 71, 0), none, none, some (.putfield 11, 3, 3, 0, 166), none, none, some (.aload_n 0, 1, 0, 0, 0), some (.iconst 4, 1, 0, 0, 0), some (.anewarray 9, 3, 3, 71, 0)],
  [none, none, some (.putfield 15, 3, 3, 1, 167), none, none, some (.aload_n 0, 1, 0, 0, 0), some (.new 18, 3, 0, 73, 0), none, none, some (.dup, 1, 0, 0, 0), some (.invokespecial 20, 3, 1, 75, 1), none, none, some (.putfield 21, 3, 3, 2, 168), none, none],
  [some (.aload_n 0, 1, 0, 0, 0), some (.iconst 3, 1, 0, 0, 0), some (.anewarray 18, 3, 2, 73, 0), none, none, some (.putfield 25, 3, 3, 3, 169), none, none, some (.aload_n 0, 1, 0, 0, 0), some (.bipush 6, 2, 0, 0, 0), none, some (.newarray .int, 2, 0, 0, 0), none, some (.putfield 29, 3, 3, 4, 170), none, none],
  [some (.aload_n 0, 1, 0, 0, 0), some (.iconst 0, 1, 0, 0, 0), some (.putfield 33, 3, 3, 5, 171), none, none, some (.aload_n 0, 1, 0, 0, 0), some (.iconst 0, 1, 0, 0, 0), some (.putfield 37, 3, 3, 6, 172), none, none, some (.aload_n 0, 1, 0, 0, 0), some (.lconst 0, 1, 0, 0, 0), some (.putfield 40, 3, 3, 7, 173), none, none, some (.aload_n 0, 1, 0, 0, 0)]]
noncomputable def tb_38_1 : List (List (Option INS)) := [[some (.lconst 1, 1, 0, 0, 0), some (.putfield 44, 3, 3, 8, 174), none, none, some (.aload_n 0, 1, 0, 0, 0), some (.new 47, 3, 2, 118, 0), none, none, some (.dup, 1, 0, 0, 0), some (.invokespecial 49, 3, 37, 120, 1), none, none, some (.putfield 50, 3, 3, 9, 175), none, none, some (.aload_n 0, 1, 0, 0, 0)],
  [some (.sipush 1000, 3, 0, 0, 0), none, none, some (.newarray .int, 2, 0, 0, 0), none, some (.putfield 54, 3, 3, 10, 176), none, none, some (.aload_n 0, 1, 0, 0, 0), some (.bipush 28, 2, 0, 0, 0), none, some (.newarray .int, 2, 0, 0, 0), none, some (.putfield 57, 3, 3, 11, 177), none, none],
  [some (.aload_n 0, 1, 0, 0, 0), some (.bipush 64, 2, 0, 0, 0), none, some (.newarray .int, 2, 0, 0, 0), none, some (.putfield 60, 3, 3, 12, 178), none, none, some (.iconst 0, 1, 0, 0, 0), some (.istore_n 1, 1, 0, 0, 0), some (.iload_n 1, 1, 0, 0, 0), some (.bipush 6, 2, 0, 0, 0), none, some (.if_icmp .ge 24, 3, 0, 0, 0), none, none],
  [some (.aload_n 0, 1, 0, 0, 0), some (.getfield 11, 3, 3, 0, 166), none, none, some (.iload_n 1, 1, 0, 0, 0), some (.new 9, 3, 1, 71, 0), none, none, some (.dup, 1, 0, 0, 0), some (.bipush 40, 2, 0, 0, 0), none, some (.invokespecial 63, 3, 32, 150, 0), none, none, some (.aastore, 1, 0, 0, 0), some (.iinc 1 1, 3, 0, 0, 0)]]
noncomputable def tb_38_2 : List (List (Option INS)) := [[none, none, some (.goto (-24), 3, 0, 0, 0), none, none, some (.iconst 0, 1, 0, 0, 0), some (.istore_n 1, 1, 0, 0, 0), some (.iload_n 1, 1, 0, 0, 0), some (.iconst 4, 1, 0, 0, 0), some (.if_icmp .ge 24, 3, 0, 0, 0), none, none, some (.aload_n 0, 1, 0, 0, 0), some (.getfield 15, 3, 3, 1, 167), none, none],
  [some (.iload_n 1, 1, 0, 0, 0), some (.new 9, 3, 1, 71, 0), none, none, some (.dup, 1, 0, 0, 0), some (.bipush 60, 2, 0, 0, 0), none, some (.invokespecial 63, 3, 32, 150, 0), none, none, some (.aastore, 1, 0, 0, 0), some (.iinc 1 1, 3, 0, 0, 0), none, none, some (.goto (-23), 3, 0, 0, 0), none],
  [none, some (.iconst 0, 1, 0, 0, 0), some (.istore_n 1, 1, 0, 0, 0), some (.iload_n 1, 1, 0, 0, 0), some (.iconst 3, 1, 0, 0, 0), some (.if_icmp .ge 22, 3, 0, 0, 0), none, none, some (.aload_n 0, 1, 0, 0, 0), some (.getfield 25, 3, 3, 3, 169), none, none, some (.iload_n 1, 1, 0, 0, 0), some (.new 18, 3, 0, 73, 0), none, none],
  [some (.dup, 1, 0, 0, 0), some (.invokespecial 20, 3, 1, 75, 1), none, none, some (.aastore, 1, 0, 0, 0), some (.iinc 1 1, 3, 0, 0, 0), none, none, some (.goto (-21), 3, 0, 0, 0), none, none, some (.return_, 1, 0, 0, 0)]]
noncomputable def tb_38 : List (List (Option INS)) := tb_38_0 ++ (tb_38_1 ++ (tb_38_2))
noncomputable def tb_39 : List (List (Option INS)) := [[some (.iload_n 1, 1, 0, 0, 0), some (.invokestatic 66, 3, 78, 210, 0), none, none, some (.ifCond .eq 9, 3, 0, 0, 0), none, none, some (.iload_n 2, 1, 0, 0, 0), some (.bipush 40, 2, 0, 0, 0), none, some (.if_icmp .le 5, 3, 0, 0, 0), none, none, some (.iconst (-1), 1, 0, 0, 0), some (.ireturn, 1, 0, 0, 0), some (.iload_n 2, 1, 0, 0, 0)],
  [some (.ifCond .ge 9, 3, 0, 0, 0), none, none, some (.aload_n 0, 1, 0, 0, 0), some (.iconst 5, 1, 0, 0, 0), some (.invokevirtual 70, 3, 83, 213, 0), none, none, some (.ireturn, 1, 0, 0, 0), some (.aload_n 0, 1, 0, 0, 0), some (.getfield 11, 3, 3, 0, 166), none, none, some (.iload_n 1, 1, 0, 0, 0), some (.aaload, 1, 0, 0, 0), some (.iload_n 2, 1, 0, 0, 0)],
  [some (.iconst 0, 1, 0, 0, 0), some (.invokevirtual 74, 3, 35, 217, 0), none, none, some (.iload_n 2, 1, 0, 0, 0), some (.ireturn, 1, 0, 0, 0)]]
noncomputable def tb_40 : List (List (Option INS)) := [[some (.iload_n 1, 1, 0, 0, 0), some (.invokestatic 66, 3, 78, 210, 0), none, none, some (.ifCond .ne 5, 3, 0, 0, 0), none, none, some (.iconst (-1), 1, 0, 0, 0), some (.ireturn, 1, 0, 0, 0), some (.aload_n 0, 1, 0, 0, 0), some (.aload_n 0, 1, 0, 0, 0), some (.getfield 11, 3, 3, 0, 166), none, none, some (.iload_n 1, 1, 0, 0, 0), some (.aaload, 1, 0, 0, 0)],
  [some (.iload_n 2, 1, 0, 0, 0), some (.invokevirtual 78, 3, 84, 225, 0), none, none, some (.istore 4, 2, 0, 0, 0), none, some (.iload 4, 2, 0, 0, 0), none, some (.ifCond .eq 6, 3, 0, 0, 0), none, none, some (.iload 4, 2, 0, 0, 0), none, some (.ireturn, 1, 0, 0, 0), some (.aload_n 0, 1, 0, 0, 0), some (.aload_n 0, 1, 0, 0, 0)],
  [some (.getfield 11, 3, 3, 0, 166), none, none, some (.iload_n 1, 1, 0, 0, 0), some (.aaload, 1, 0, 0, 0), some (.getfield 82, 3, 1, 0, 158), none, none, some (.iload_n 2, 1, 0, 0, 0), some (.iaload, 1, 0, 0, 0), some (.putfield 37, 3, 3, 6, 172), none, none, some (.aload_n 0, 1, 0, 0, 0), some (.getfield 11, 3, 3, 0, 166), none],
  [none, some (.iload_n 1, 1, 0, 0, 0), some (.aaload, 1, 0, 0, 0), some (.getfield 82, 3, 1, 0, 158), none, none, some (.iload_n 2, 1, 0, 0, 0), some (.iload_n 3, 1, 0, 0, 0), some (.iastore, 1, 0, 0, 0), some (.iconst 1, 1, 0, 0, 0), some (.ireturn, 1, 0, 0, 0)]]
noncomputable def tb_41 : List (List (Option INS)) := [[some (.iload_n 1, 1, 0, 0, 0), some (.invokestatic 66, 3, 78, 210, 0), none, none, some (.ifCond .ne 5, 3, 0, 0, 0), none, none, some (.iconst (-1), 1, 0, 0, 0), some (.ireturn, 1, 0, 0, 0), some (.aload_n 0, 1, 0, 0, 0), some (.aload_n 0, 1, 0, 0, 0), some (.getfield 11, 3, 3, 0, 166), none, none, some (.iload_n 1, 1, 0, 0, 0), some (.aaload, 1, 0, 0, 0)],
  [some (.iload_n 2, 1, 0, 0, 0), some (.invokevirtual 78, 3, 84, 225, 0), none, none, some (.istore_n 3, 1, 0, 0, 0), some (.iload_n 3, 1, 0, 0, 0), some (.ifCond .eq 5, 3, 0, 0, 0), none, none, some (.iload_n 3, 1, 0, 0, 0), some (.ireturn, 1, 0, 0, 0), some (.aload_n 0, 1, 0, 0, 0), some (.aload_n 0, 1, 0, 0, 0), some (.getfield 11, 3, 3, 0, 166), none, none],
  [some (.iload_n 1, 1, 0, 0, 0), some (.aaload, 1, 0, 0, 0), some (.getfield 82, 3, 1, 0, 158), none, none, some (.iload_n 2, 1, 0, 0, 0), some (.iaload, 1, 0, 0, 0), some (.putfield 37, 3, 3, 6, 172), none, none, some (.iconst 1, 1, 0, 0, 0), some (.ireturn, 1, 0, 0, 0)]]
noncomputable def tb_42 : List (List (Option INS)) := [[some (.iload_n 1, 1, 0, 0, 0), some (.invokestatic 66, 3, 78, 210, 0), none, none, some (.ifCond .ne 5, 3, 0, 0, 0), none, none, some (.iconst (-1), 1, 0, 0, 0), some (.ireturn, 1, 0, 0, 0), some (.aload_n 0, 1, 0, 0, 0), some (.getfield 11, 3, 3, 0, 166), none, none, some (.iload_n 1, 1, 0, 0, 0), some (.aaload, 1, 0, 0, 0), some (.invokevirtual 85, 3, 33, 229, 0)],
  [none, none, some (.ifCond .eq 9, 3, 0, 0, 0), none, none, some (.aload_n 0, 1, 0, 0, 0), some (.iconst 1, 1, 0, 0, 0), some (.invokevirtual 70, 3, 83, 213, 0), none, none, some (.ireturn, 1, 0, 0, 0), some (.aload_n 0, 1, 0, 0, 0), some (.getfield 11, 3, 3, 0, 166), none, none, some (.iload_n 1, 1, 0, 0, 0)],
  [some (.aaload, 1, 0, 0, 0), some (.iconst (-1), 1, 0, 0, 0), some (.putfield 89, 3, 1, 1, 160), none, none, some (.iconst 1, 1, 0, 0, 0), some (.ireturn, 1, 0, 0, 0)]]
noncomputable def tb_43_0 : List (List (Option INS)) := [[some (.iload_n 1, 1, 0, 0, 0), some (.invokestatic 66, 3, 78, 210, 0), none, none, some (.ifCond .eq 10, 3, 0, 0, 0), none, none, some (.iload_n 3, 1, 0, 0, 0), some (.invokestatic 66, 3, 78, 210, 0), none, none, some (.ifCond .ne 5, 3, 0, 0, 0), none, none, some (.iconst (-1), 1, 0, 0, 0), some (.ireturn, 1, 0, 0, 0)],
  [some (.iload 5, 2, 0, 0, 0), none, some (.ifCond .ge 9, 3, 0, 0, 0), none, none, some (.aload_n 0, 1, 0, 0, 0), some (.iconst 5, 1, 0, 0, 0), some (.invokevirtual 70, 3, 83, 213, 0), none, none, some (.ireturn, 1, 0, 0, 0), some (.aload_n 0, 1, 0, 0, 0), some (.getfield 11, 3, 3, 0, 166), none, none, some (.iload_n 1, 1, 0, 0, 0)],
  [some (.aaload, 1, 0, 0, 0), some (.invokevirtual 85, 3, 33, 229, 0), none, none, some (.ifCond .ne 15, 3, 0, 0, 0), none, none, some (.aload_n 0, 1, 0, 0, 0), some (.getfield 11, 3, 3, 0, 166), none, none, some (.iload_n 3, 1, 0, 0, 0), some (.aaload, 1, 0, 0, 0), some (.invokevirtual 85, 3, 33, 229, 0), none, none],
  [some (.ifCond .eq 9, 3, 0, 0, 0), none, none, some (.aload_n 0, 1, 0, 0, 0), some (.iconst 1, 1, 0, 0, 0), some (.invokevirtual 70, 3, 83, 213, 0), none, none, some (.ireturn, 1, 0, 0, 0), some (.aload_n 0, 1, 0, 0, 0), some (.getfield 11, 3, 3, 0, 166), none, none, some (.iload_n 1, 1, 0, 0, 0), some (.aaload, 1, 0, 0, 0), some (.iload_n 2, 1, 0, 0, 0)]]
noncomputable def tb_43_1 : List (List (Option INS)) := [[some (.iload 5, 2, 0, 0, 0), none, some (.invokevirtual 92, 3, 34, 233, 0), none, none, some (.ifCond .eq 19, 3, 0, 0, 0), none, none, some (.aload_n 0, 1, 0, 0, 0), some (.getfield 11, 3, 3, 0, 166), none, none, some (.iload_n 3, 1, 0, 0, 0), some (.aaload, 1, 0, 0, 0), some (.iload 4, 2, 0, 0, 0), none],
  [some (.iload 5, 2, 0, 0, 0), none, some (.invokevirtual 92, 3, 34, 233, 0), none, none, some (.ifCond .ne 9, 3, 0, 0, 0), none, none, some (.aload_n 0, 1, 0, 0, 0), some (.iconst 2, 1, 0, 0, 0), some (.invokevirtual 70, 3, 83, 213, 0), none, none, some (.ireturn, 1, 0, 0, 0), some (.aload_n 0, 1, 0, 0, 0), some (.getfield 11, 3, 3, 0, 166)],
  [none, none, some (.iload_n 1, 1, 0, 0, 0), some (.aaload, 1, 0, 0, 0), some (.getfield 82, 3, 1, 0, 158), none, none, some (.iload_n 2, 1, 0, 0, 0), some (.aload_n 0, 1, 0, 0, 0), some (.getfield 11, 3, 3, 0, 166), none, none, some (.iload_n 3, 1, 0, 0, 0), some (.aaload, 1, 0, 0, 0), some (.getfield 82, 3, 1, 0, 158), none],
  [none, some (.iload 4, 2, 0, 0, 0), none, some (.iload 5, 2, 0, 0, 0), none, some (.invokestatic 96, 3, 9999, 249, 0), none, none, some (.iconst 1, 1, 0, 0, 0), some (.ireturn, 1, 0, 0, 0)]]
noncomputable def tb_43 : List (List (Option INS)) := tb_43_0 ++ (tb_43_1)
noncomputable def tb_44_0 : List (List (Option INS)) := [[some (.iload_n 1, 1, 0, 0, 0), some (.invokestatic 66, 3, 78, 210, 0), none, none, some (.ifCond .ne 5, 3, 0, 0, 0), none, none, some (.iconst (-1), 1, 0, 0, 0), some (.ireturn, 1, 0, 0, 0), some (.aload_n 0, 1, 0, 0, 0), some (.getfield 11, 3, 3, 0, 166), none, none, some (.iload_n 1, 1, 0, 0, 0), some (.aaload, 1, 0, 0, 0), some (.astore_n 2, 1, 0, 0, 0)],
  [some (.aload_n 2, 1, 0, 0, 0), some (.invokevirtual 85, 3, 33, 229, 0), none, none, some (.ifCond .eq 9, 3, 0, 0, 0), none, none, some (.aload_n 0, 1, 0, 0, 0), some (.iconst 1, 1, 0, 0, 0), some (.invokevirtual 70, 3, 83, 213, 0), none, none, some (.ireturn, 1, 0, 0, 0), some (.aload_n 2, 1, 0, 0, 0), some (.getfield 89, 3, 1, 1, 160), none],
  [none, some (.ifCond .ne 9, 3, 0, 0, 0), none, none, some (.aload_n 0, 1, 0, 0, 0), some (.iconst 4, 1, 0, 0, 0), some (.invokevirtual 70, 3, 83, 213, 0), none, none, some (.ireturn, 1, 0, 0, 0), some (.lconst 0, 1, 0, 0, 0), some (.lstore_n 3, 1, 0, 0, 0), some (.iconst 0, 1, 0, 0, 0), some (.istore 5, 2, 0, 0, 0), none, some (.iload 5, 2, 0, 0, 0)],
  [none, some (.aload_n 2, 1, 0, 0, 0), some (.getfield 89, 3, 1, 1, 160), none, none, some (.if_icmp .ge 20, 3, 0, 0, 0), none, none, some (.lload_n 3, 1, 0, 0, 0), some (.aload_n 2, 1, 0, 0, 0), some (.getfield 82, 3, 1, 0, 158), none, none, some (.iload 5, 2, 0, 0, 0), none, some (.iaload, 1, 0, 0, 0)]]
noncomputable def tb_44_1 : List (List (Option INS)) := [[some (.i2l, 1, 0, 0, 0), some (.ladd, 1, 0, 0, 0), some (.lstore_n 3, 1, 0, 0, 0), some (.iinc 5 1, 3, 0, 0, 0), none, none, some (.goto (-23), 3, 0, 0, 0), none, none, some (.aload_n 0, 1, 0, 0, 0), some (.lload_n 3, 1, 0, 0, 0), some (.aload_n 2, 1, 0, 0, 0), some (.getfield 89, 3, 1, 1, 160), none, none, some (.i2l, 1, 0, 0, 0)],
  [some (.ldiv, 1, 0, 0, 0), some (.l2i, 1, 0, 0, 0), some (.putfield 37, 3, 3, 6, 172), none, none, some (.iconst 1, 1, 0, 0, 0), some (.ireturn, 1, 0, 0, 0)]]
noncomputable def tb_44 : List (List (Option INS)) := tb_44_0 ++ (tb_44_1)
noncomputable def tb_45 : List (List (Option INS)) := [[some (.iload_n 1, 1, 0, 0, 0), some (.invokestatic 102, 3, 79, 260, 0), none, none, some (.ifCond .eq 9, 3, 0, 0, 0), none, none, some (.iload_n 2, 1, 0, 0, 0), some (.bipush 60, 2, 0, 0, 0), none, some (.if_icmp .le 5, 3, 0, 0, 0), none, none, some (.iconst (-1), 1, 0, 0, 0), some (.ireturn, 1, 0, 0, 0), some (.iload_n 2, 1, 0, 0, 0)],
  [some (.ifCond .ge 9, 3, 0, 0, 0), none, none, some (.aload_n 0, 1, 0, 0, 0), some (.iconst 5, 1, 0, 0, 0), some (.invokevirtual 70, 3, 83, 213, 0), none, none, some (.ireturn, 1, 0, 0, 0), some (.aload_n 0, 1, 0, 0, 0), some (.getfield 15, 3, 3, 1, 167), none, none, some (.iload_n 1, 1, 0, 0, 0), some (.aaload, 1, 0, 0, 0), some (.iload_n 2, 1, 0, 0, 0)],
  [some (.bipush 32, 2, 0, 0, 0), none, some (.invokevirtual 74, 3, 35, 217, 0), none, none, some (.iload_n 2, 1, 0, 0, 0), some (.ireturn, 1, 0, 0, 0)]]
noncomputable def tb_46 : List (List (Option INS)) := [[some (.iload_n 1, 1, 0, 0, 0), some (.invokestatic 102, 3, 79, 260, 0), none, none, some (.ifCond .ne 5, 3, 0, 0, 0), none, none, some (.iconst (-1), 1, 0, 0, 0), some (.ireturn, 1, 0, 0, 0), some (.aload_n 0, 1, 0, 0, 0), some (.aload_n 0, 1, 0, 0, 0), some (.getfield 15, 3, 3, 1, 167), none, none, some (.iload_n 1, 1, 0, 0, 0), some (.aaload, 1, 0, 0, 0)],
  [some (.iload_n 2, 1, 0, 0, 0), some (.invokevirtual 78, 3, 84, 225, 0), none, none, some (.istore 4, 2, 0, 0, 0), none, some (.iload 4, 2, 0, 0, 0), none, some (.ifCond .eq 6, 3, 0, 0, 0), none, none, some (.iload 4, 2, 0, 0, 0), none, some (.ireturn, 1, 0, 0, 0), some (.aload_n 0, 1, 0, 0, 0), some (.getfield 15, 3, 3, 1, 167)],
  [none, none, some (.iload_n 1, 1, 0, 0, 0), some (.aaload, 1, 0, 0, 0), some (.getfield 82, 3, 1, 0, 158), none, none, some (.iload_n 2, 1, 0, 0, 0), some (.iaload, 1, 0, 0, 0), some (.istore 5, 2, 0, 0, 0), none, some (.aload_n 0, 1, 0, 0, 0), some (.getfield 15, 3, 3, 1, 167), none, none, some (.iload_n 1, 1, 0, 0, 0)],
  [some (.aaload, 1, 0, 0, 0), some (.getfield 82, 3, 1, 0, 158), none, none, some (.iload_n 2, 1, 0, 0, 0), some (.iload_n 3, 1, 0, 0, 0), some (.i2b, 1, 0, 0, 0), some (.iastore, 1, 0, 0, 0), some (.iload 5, 2, 0, 0, 0), none, some (.sipush 1000, 3, 0, 0, 0), none, none, some (.iadd, 1, 0, 0, 0), some (.ireturn, 1, 0, 0, 0)]]
noncomputable def tb_47 : List (List (Option INS)) := [[some (.iload_n 1, 1, 0, 0, 0), some (.invokestatic 102, 3, 79, 260, 0), none, none, some (.ifCond .ne 5, 3, 0, 0, 0), none, none, some (.iconst (-1), 1, 0, 0, 0), some (.ireturn, 1, 0, 0, 0), some (.aload_n 0, 1, 0, 0, 0), some (.getfield 15, 3, 3, 1, 167), none, none, some (.iload_n 1, 1, 0, 0, 0), some (.aaload, 1, 0, 0, 0), some (.invokevirtual 85, 3, 33, 229, 0)],
  [none, none, some (.ifCond .eq 9, 3, 0, 0, 0), none, none, some (.aload_n 0, 1, 0, 0, 0), some (.iconst 1, 1, 0, 0, 0), some (.invokevirtual 70, 3, 83, 213, 0), none, none, some (.ireturn, 1, 0, 0, 0), some (.aload_n 0, 1, 0, 0, 0), some (.getfield 15, 3, 3, 1, 167), none, none, some (.iload_n 1, 1, 0, 0, 0)],
  [some (.aaload, 1, 0, 0, 0), some (.invokestatic 105, 3, 87, 271, 0), none, none, some (.ireturn, 1, 0, 0, 0)]]
noncomputable def tb_48_0 : List (List (Option INS)) := [[some (.iload_n 1, 1, 0, 0, 0), some (.invokestatic 102, 3, 79, 260, 0), none, none, some (.ifCond .ne 5, 3, 0, 0, 0), none, none, some (.iconst (-1), 1, 0, 0, 0), some (.ireturn, 1, 0, 0, 0), some (.aload_n 0, 1, 0, 0, 0), some (.getfield 15, 3, 3, 1, 167), none, none, some (.iload_n 1, 1, 0, 0, 0), some (.aaload, 1, 0, 0, 0), some (.invokevirtual 85, 3, 33, 229, 0)],
  [none, none, some (.ifCond .eq 9, 3, 0, 0, 0), none, none, some (.aload_n 0, 1, 0, 0, 0), some (.iconst 1, 1, 0, 0, 0), some (.invokevirtual 70, 3, 83, 213, 0), none, none, some (.ireturn, 1, 0, 0, 0), some (.aload_n 0, 1, 0, 0, 0), some (.getfield 15, 3, 3, 1, 167), none, none, some (.iload_n 1, 1, 0, 0, 0)],
  [some (.aaload, 1, 0, 0, 0), some (.invokestatic 105, 3, 87, 271, 0), none, none, some (.bipush (-9), 2, 0, 0, 0), none, some (.if_icmp .eq 6, 3, 0, 0, 0), none, none, some (.bipush (-4), 2, 0, 0, 0), none, some (.ireturn, 1, 0, 0, 0), some (.aload_n 0, 1, 0, 0, 0), some (.aload_n 0, 1, 0, 0, 0), some (.getfield 15, 3, 3, 1, 167), none],
  [none, some (.iload_n 1, 1, 0, 0, 0), some (.aaload, 1, 0, 0, 0), some (.invokevirtual 109, 3, 89, 284, 0), none, none, some (.aload_n 0, 1, 0, 0, 0), some (.getfield 25, 3, 3, 3, 169), none, none, some (.astore_n 2, 1, 0, 0, 0), some (.aload_n 2, 1, 0, 0, 0), some (.arraylength, 1, 0, 0, 0), some (.istore_n 3, 1, 0, 0, 0), some (.iconst 0, 1, 0, 0, 0), some (.istore 4, 2, 0, 0, 0)]]
noncomputable def tb_48_1 : List (List (Option INS)) := [[none, some (.iload 4, 2, 0, 0, 0), none, some (.iload_n 3, 1, 0, 0, 0), some (.if_icmp .ge 20, 3, 0, 0, 0), none, none, some (.aload_n 2, 1, 0, 0, 0), some (.iload 4, 2, 0, 0, 0), none, some (.aaload, 1, 0, 0, 0), some (.astore 5, 2, 0, 0, 0), none, some (.aload 5, 2, 0, 0, 0), none, some (.invokevirtual 113, 3, 3, 288, 0)],
  [none, none, some (.iinc 4 1, 3, 0, 0, 0), none, none, some (.goto (-20), 3, 0, 0, 0), none, none, some (.aload_n 0, 1, 0, 0, 0), some (.getfield 21, 3, 3, 2, 168), none, none, some (.getfield 116, 3, 0, 7, 90), none, none, some (.ireturn, 1, 0, 0, 0)]]
noncomputable def tb_48 : List (List (Option INS)) := tb_48_0 ++ (tb_48_1)
noncomputable def tb_49 : List (List (Option INS)) := [[some (.aload_n 0, 1, 0, 0, 0), some (.iload_n 1, 1, 0, 0, 0), some (.invokevirtual 117, 3, 82, 304, 0), none, none, some (.ifCond .eq 13, 3, 0, 0, 0), none, none, some (.iload_n 2, 1, 0, 0, 0), some (.ifCond .lt 9, 3, 0, 0, 0), none, none, some (.iload_n 2, 1, 0, 0, 0), some (.bipush 6, 2, 0, 0, 0), none, some (.if_icmp .le 5, 3, 0, 0, 0)],
  [none, none, some (.iconst (-1), 1, 0, 0, 0), some (.ireturn, 1, 0, 0, 0), some (.aload_n 0, 1, 0, 0, 0), some (.aload_n 0, 1, 0, 0, 0), some (.iload_n 1, 1, 0, 0, 0), some (.iload_n 2, 1, 0, 0, 0), some (.invokevirtual 120, 3, 91, 308, 0), none, none, some (.putfield 37, 3, 3, 6, 172), none, none, some (.iconst 1, 1, 0, 0, 0), some (.ireturn, 1, 0, 0, 0)]]
noncomputable def tb_50_0 : List (List (Option INS)) := [[some (.aload_n 0, 1, 0, 0, 0), some (.iload_n 1, 1, 0, 0, 0), some (.invokevirtual 117, 3, 82, 304, 0), none, none, some (.ifCond .eq 12, 3, 0, 0, 0), none, none, some (.iload_n 2, 1, 0, 0, 0), some (.ifCond .le 8, 3, 0, 0, 0), none, none, some (.iload_n 2, 1, 0, 0, 0), some (.iconst 5, 1, 0, 0, 0), some (.if_icmp .le 5, 3, 0, 0, 0), none],
  [none, some (.iconst (-1), 1, 0, 0, 0), some (.ireturn, 1, 0, 0, 0), some (.aload_n 0, 1, 0, 0, 0), some (.getfield 21, 3, 3, 2, 168), none, none, some (.getfield 126, 3, 0, 0, 80), none, none, some (.iload_n 1, 1, 0, 0, 0), some (.iaload, 1, 0, 0, 0), some (.istore_n 3, 1, 0, 0, 0), some (.iload_n 3, 1, 0, 0, 0), some (.iload_n 2, 1, 0, 0, 0), some (.invokestatic 129, 3, 19, 348, 0)],
  [none, none, some (.ifCond .ne 9, 3, 0, 0, 0), none, none, some (.aload_n 0, 1, 0, 0, 0), some (.iconst 3, 1, 0, 0, 0), some (.invokevirtual 70, 3, 83, 213, 0), none, none, some (.ireturn, 1, 0, 0, 0), some (.iload_n 2, 1, 0, 0, 0), some (.tableswitch 91 1 4 #[32, 44, 68, 81], 32, 0, 0, 0), none, none, none],
  [none, none, none, none, none, none, none, none, none, none, none, none, none, none, none, none]]
noncomputable def tb_50_1 : List (List (Option INS)) := [[none, none, none, none, none, none, none, none, none, none, none, none, some (.iload_n 3, 1, 0, 0, 0), some (.aload_n 0, 1, 0, 0, 0), some (.getfield 21, 3, 3, 2, 168), none],
  [none, some (.getfield 132, 3, 0, 8, 92), none, none, some (.invokestatic 135, 3, 20, 349, 0), none, none, some (.ireturn, 1, 0, 0, 0), some (.iload_n 3, 1, 0, 0, 0), some (.aload_n 0, 1, 0, 0, 0), some (.getfield 21, 3, 3, 2, 168), none, none, some (.getfield 138, 3, 0, 1, 82), none, none],
  [some (.iload_n 1, 1, 0, 0, 0), some (.iaload, 1, 0, 0, 0), some (.aload_n 0, 1, 0, 0, 0), some (.getfield 21, 3, 3, 2, 168), none, none, some (.getfield 132, 3, 0, 8, 92), none, none, some (.invokestatic 141, 3, 25, 321, 0), none, none, some (.invokestatic 145, 3, 188, 350, 0), none, none, some (.ireturn, 1, 0, 0, 0)],
  [some (.aload_n 0, 1, 0, 0, 0), some (.getfield 21, 3, 3, 2, 168), none, none, some (.getfield 138, 3, 0, 1, 82), none, none, some (.iload_n 1, 1, 0, 0, 0), some (.iaload, 1, 0, 0, 0), some (.invokestatic 150, 3, 30, 356, 0), none, none, some (.ireturn, 1, 0, 0, 0), some (.aload_n 0, 1, 0, 0, 0), some (.getfield 21, 3, 3, 2, 168), none]]
noncomputable def tb_50_2 : List (List (Option INS)) := [[none, some (.getfield 132, 3, 0, 8, 92), none, none, some (.iconst 2, 1, 0, 0, 0), some (.irem, 1, 0, 0, 0), some (.ireturn, 1, 0, 0, 0), some (.aload_n 0, 1, 0, 0, 0), some (.getfield 21, 3, 3, 2, 168), none, none, some (.iload_n 1, 1, 0, 0, 0), some (.invokevirtual 155, 3, 13, 360, 0), none, none, some (.ireturn, 1, 0, 0, 0)]]
noncomputable def tb_50 : List (List (Option INS)) := tb_50_0 ++ (tb_50_1 ++ (tb_50_2))
noncomputable def tb_51 : List (List (Option INS)) := [[some (.aload_n 0, 1, 0, 0, 0), some (.iload_n 1, 1, 0, 0, 0), some (.invokevirtual 117, 3, 82, 304, 0), none, none, some (.ifCond .eq 10, 3, 0, 0, 0), none, none, some (.iload_n 2, 1, 0, 0, 0), some (.invokestatic 158, 3, 81, 368, 0), none, none, some (.ifCond .ne 5, 3, 0, 0, 0), none, none, some (.iconst (-1), 1, 0, 0, 0)],
  [some (.ireturn, 1, 0, 0, 0), some (.aload_n 0, 1, 0, 0, 0), some (.getfield 21, 3, 3, 2, 168), none, none, some (.iconst 1, 1, 0, 0, 0), some (.invokevirtual 161, 3, 6, 371, 0), none, none, some (.ifCond .ne 6, 3, 0, 0, 0), none, none, some (.bipush (-2), 2, 0, 0, 0), none, some (.ireturn, 1, 0, 0, 0), some (.aload_n 0, 1, 0, 0, 0)],
  [some (.getfield 21, 3, 3, 2, 168), none, none, some (.iload_n 1, 1, 0, 0, 0), some (.iload_n 2, 1, 0, 0, 0), some (.invokevirtual 164, 3, 8, 375, 0), none, none, some (.ifCond .eq 7, 3, 0, 0, 0), none, none, some (.iconst 1, 1, 0, 0, 0), some (.goto 4, 3, 0, 0, 0), none, none, some (.iconst 0, 1, 0, 0, 0)],
  [some (.ireturn, 1, 0, 0, 0)]]
noncomputable def tb_52_0 : List (List (Option INS)) := [[some (.aload_n 0, 1, 0, 0, 0), some (.iload_n 1, 1, 0, 0, 0), some (.invokevirtual 117, 3, 82, 304, 0), none, none, some (.ifCond .eq 22, 3, 0, 0, 0), none, none, some (.iload_n 2, 1, 0, 0, 0), some (.ifCond .lt 18, 3, 0, 0, 0), none, none, some (.iload_n 2, 1, 0, 0, 0), some (.iconst 3, 1, 0, 0, 0), some (.if_icmp .ge 13, 3, 0, 0, 0), none],
  [none, some (.iload_n 3, 1, 0, 0, 0), some (.ifCond .lt 9, 3, 0, 0, 0), none, none, some (.iload_n 3, 1, 0, 0, 0), some (.bipush 9, 2, 0, 0, 0), none, some (.if_icmp .le 5, 3, 0, 0, 0), none, none, some (.iconst (-1), 1, 0, 0, 0), some (.ireturn, 1, 0, 0, 0), some (.aload_n 0, 1, 0, 0, 0), some (.getfield 21, 3, 3, 2, 168), none],
  [none, some (.getfield 138, 3, 0, 1, 82), none, none, some (.iload_n 1, 1, 0, 0, 0), some (.iaload, 1, 0, 0, 0), some (.iload_n 2, 1, 0, 0, 0), some (.invokestatic 167, 3, 28, 343, 0), none, none, some (.istore 4, 2, 0, 0, 0), none, some (.iload 4, 2, 0, 0, 0), none, some (.iload_n 3, 1, 0, 0, 0), some (.if_icmp .ne 6, 3, 0, 0, 0)],
  [none, none, some (.bipush (-4), 2, 0, 0, 0), none, some (.ireturn, 1, 0, 0, 0), some (.aload_n 0, 1, 0, 0, 0), some (.getfield 21, 3, 3, 2, 168), none, none, some (.iconst 1, 1, 0, 0, 0), some (.invokevirtual 161, 3, 6, 371, 0), none, none, some (.ifCond .ne 6, 3, 0, 0, 0), none, none]]
noncomputable def tb_52_1 : List (List (Option INS)) := [[some (.bipush (-2), 2, 0, 0, 0), none, some (.ireturn, 1, 0, 0, 0), some (.aload_n 0, 1, 0, 0, 0), some (.getfield 21, 3, 3, 2, 168), none, none, some (.iload_n 1, 1, 0, 0, 0), some (.iload_n 2, 1, 0, 0, 0), some (.iload_n 3, 1, 0, 0, 0), some (.invokevirtual 170, 3, 9, 388, 0), none, none, some (.iload 4, 2, 0, 0, 0), none, some (.ireturn, 1, 0, 0, 0)]]
noncomputable def tb_52 : List (List (Option INS)) := tb_52_0 ++ (tb_52_1)
noncomputable def tb_53 : List (List (Option INS)) := [[some (.iload_n 1, 1, 0, 0, 0), some (.ifCond .lt 14, 3, 0, 0, 0), none, none, some (.iload_n 1, 1, 0, 0, 0), some (.aload_n 0, 1, 0, 0, 0), some (.getfield 21, 3, 3, 2, 168), none, none, some (.getfield 174, 3, 0, 9, 94), none, none, some (.if_icmp .le 5, 3, 0, 0, 0), none, none, some (.iconst (-1), 1, 0, 0, 0)],
  [some (.ireturn, 1, 0, 0, 0), some (.aload_n 0, 1, 0, 0, 0), some (.getfield 21, 3, 3, 2, 168), none, none, some (.iload_n 1, 1, 0, 0, 0), some (.invokevirtual 177, 3, 11, 398, 0), none, none, some (.ireturn, 1, 0, 0, 0)]]
noncomputable def tb_54 : List (List (Option INS)) := [[some (.iload_n 1, 1, 0, 0, 0), some (.invokestatic 180, 3, 80, 406, 0), none, none, some (.ifCond .ne 5, 3, 0, 0, 0), none, none, some (.iconst (-1), 1, 0, 0, 0), some (.ireturn, 1, 0, 0, 0), some (.aload_n 0, 1, 0, 0, 0), some (.getfield 21, 3, 3, 2, 168), none, none, some (.invokevirtual 183, 3, 2, 409, 0), none, none],
  [some (.ifCond .eq 6, 3, 0, 0, 0), none, none, some (.bipush (-4), 2, 0, 0, 0), none, some (.ireturn, 1, 0, 0, 0), some (.aload_n 0, 1, 0, 0, 0), some (.getfield 25, 3, 3, 3, 169), none, none, some (.iload_n 1, 1, 0, 0, 0), some (.aaload, 1, 0, 0, 0), some (.aload_n 0, 1, 0, 0, 0), some (.getfield 21, 3, 3, 2, 168), none, none],
  [some (.invokevirtual 186, 3, 5, 413, 0), none, none, some (.aload_n 0, 1, 0, 0, 0), some (.getfield 21, 3, 3, 2, 168), none, none, some (.getfield 174, 3, 0, 9, 94), none, none, some (.ireturn, 1, 0, 0, 0)]]
noncomputable def tb_55 : List (List (Option INS)) := [[some (.iload_n 1, 1, 0, 0, 0), some (.invokestatic 180, 3, 80, 406, 0), none, none, some (.ifCond .ne 5, 3, 0, 0, 0), none, none, some (.iconst (-1), 1, 0, 0, 0), some (.ireturn, 1, 0, 0, 0), some (.aload_n 0, 1, 0, 0, 0), some (.getfield 25, 3, 3, 3, 169), none, none, some (.iload_n 1, 1, 0, 0, 0), some (.aaload, 1, 0, 0, 0), some (.invokevirtual 183, 3, 2, 409, 0)],
  [none, none, some (.ifCond .eq 9, 3, 0, 0, 0), none, none, some (.aload_n 0, 1, 0, 0, 0), some (.iconst 1, 1, 0, 0, 0), some (.invokevirtual 70, 3, 83, 213, 0), none, none, some (.ireturn, 1, 0, 0, 0), some (.aload_n 0, 1, 0, 0, 0), some (.getfield 21, 3, 3, 2, 168), none, none, some (.aload_n 0, 1, 0, 0, 0)],
  [some (.getfield 25, 3, 3, 3, 169), none, none, some (.iload_n 1, 1, 0, 0, 0), some (.aaload, 1, 0, 0, 0), some (.invokevirtual 186, 3, 5, 413, 0), none, none, some (.aload_n 0, 1, 0, 0, 0), some (.getfield 21, 3, 3, 2, 168), none, none, some (.getfield 174, 3, 0, 9, 94), none, none, some (.ireturn, 1, 0, 0, 0)]]
noncomputable def tb_56 : List (List (Option INS)) := [[some (.aload_n 0, 1, 0, 0, 0), some (.iload_n 1, 1, 0, 0, 0), some (.invokevirtual 117, 3, 82, 304, 0), none, none, some (.ifCond .eq 20, 3, 0, 0, 0), none, none, some (.iload_n 2, 1, 0, 0, 0), some (.invokestatic 158, 3, 81, 368, 0), none, none, some (.ifCond .eq 13, 3, 0, 0, 0), none, none, some (.iload_n 3, 1, 0, 0, 0)],
  [some (.ifCond .lt 9, 3, 0, 0, 0), none, none, some (.iload_n 3, 1, 0, 0, 0), some (.bipush 99, 2, 0, 0, 0), none, some (.if_icmp .le 6, 3, 0, 0, 0), none, none, some (.bipush (-100), 2, 0, 0, 0), none, some (.ireturn, 1, 0, 0, 0), some (.aload_n 0, 1, 0, 0, 0), some (.aload_n 0, 1, 0, 0, 0), some (.getfield 21, 3, 3, 2, 168), none],
  [none, some (.getfield 126, 3, 0, 0, 80), none, none, some (.iload_n 1, 1, 0, 0, 0), some (.iaload, 1, 0, 0, 0), some (.iload_n 2, 1, 0, 0, 0), some (.invokestatic 190, 3, 21, 426, 0), none, none, some (.putfield 37, 3, 3, 6, 172), none, none, some (.aload_n 0, 1, 0, 0, 0), some (.getfield 21, 3, 3, 2, 168), none],
  [none, some (.getfield 126, 3, 0, 0, 80), none, none, some (.iload_n 1, 1, 0, 0, 0), some (.iaload, 1, 0, 0, 0), some (.iload_n 2, 1, 0, 0, 0), some (.iload_n 3, 1, 0, 0, 0), some (.invokestatic 193, 3, 22, 427, 0), none, none, some (.ireturn, 1, 0, 0, 0)]]
noncomputable def tb_57_0 : List (List (Option INS)) := [[some (.aload_n 0, 1, 0, 0, 0), some (.iload_n 1, 1, 0, 0, 0), some (.invokevirtual 117, 3, 82, 304, 0), none, none, some (.ifCond .eq 10, 3, 0, 0, 0), none, none, some (.iload_n 2, 1, 0, 0, 0), some (.invokestatic 66, 3, 78, 210, 0), none, none, some (.ifCond .ne 5, 3, 0, 0, 0), none, none, some (.iconst (-1), 1, 0, 0, 0)],
  [some (.ireturn, 1, 0, 0, 0), some (.aload_n 0, 1, 0, 0, 0), some (.getfield 11, 3, 3, 0, 166), none, none, some (.iload_n 2, 1, 0, 0, 0), some (.aaload, 1, 0, 0, 0), some (.astore_n 3, 1, 0, 0, 0), some (.aload_n 0, 1, 0, 0, 0), some (.aload_n 3, 1, 0, 0, 0), some (.iconst 0, 1, 0, 0, 0), some (.bipush 20, 2, 0, 0, 0), none, some (.iconst 0, 1, 0, 0, 0), some (.bipush 6, 2, 0, 0, 0), none],
  [some (.invokevirtual 196, 3, 85, 432, 0), none, none, some (.istore 4, 2, 0, 0, 0), none, some (.iload 4, 2, 0, 0, 0), none, some (.ifCond .eq 6, 3, 0, 0, 0), none, none, some (.iload 4, 2, 0, 0, 0), none, some (.ireturn, 1, 0, 0, 0), some (.aload_n 0, 1, 0, 0, 0), some (.getfield 21, 3, 3, 2, 168), none],
  [none, some (.getfield 138, 3, 0, 1, 82), none, none, some (.iload_n 1, 1, 0, 0, 0), some (.iaload, 1, 0, 0, 0), some (.istore 5, 2, 0, 0, 0), none, some (.iconst 0, 1, 0, 0, 0), some (.istore 6, 2, 0, 0, 0), none, some (.iconst 0, 1, 0, 0, 0), some (.istore 7, 2, 0, 0, 0), none, some (.iload 7, 2, 0, 0, 0), none]]
noncomputable def tb_57_1 : List (List (Option INS)) := [[some (.aload_n 3, 1, 0, 0, 0), some (.getfield 89, 3, 1, 1, 160), none, none, some (.if_icmp .ge 55, 3, 0, 0, 0), none, none, some (.aload_n 0, 1, 0, 0, 0), some (.getfield 21, 3, 3, 2, 168), none, none, some (.getfield 126, 3, 0, 0, 80), none, none, some (.iload_n 1, 1, 0, 0, 0), some (.iaload, 1, 0, 0, 0)],
  [some (.iload 5, 2, 0, 0, 0), none, some (.aload_n 3, 1, 0, 0, 0), some (.getfield 82, 3, 1, 0, 158), none, none, some (.iload 7, 2, 0, 0, 0), none, some (.iaload, 1, 0, 0, 0), some (.aload_n 0, 1, 0, 0, 0), some (.getfield 21, 3, 3, 2, 168), none, none, some (.getfield 132, 3, 0, 8, 92), none, none],
  [some (.iload 7, 2, 0, 0, 0), none, some (.iadd, 1, 0, 0, 0), some (.invokestatic 200, 3, 23, 436, 0), none, none, some (.istore 8, 2, 0, 0, 0), none, some (.iload 8, 2, 0, 0, 0), none, some (.iconst (-1), 1, 0, 0, 0), some (.if_icmp .eq 10, 3, 0, 0, 0), none, none, some (.iload 8, 2, 0, 0, 0), none],
  [some (.istore 5, 2, 0, 0, 0), none, some (.iinc 6 1, 3, 0, 0, 0), none, none, some (.iinc 7 1, 3, 0, 0, 0), none, none, some (.goto (-58), 3, 0, 0, 0), none, none, some (.aload_n 0, 1, 0, 0, 0), some (.iload 5, 2, 0, 0, 0), none, some (.putfield 37, 3, 3, 6, 172), none]]
noncomputable def tb_57_2 : List (List (Option INS)) := [[none, some (.iload 6, 2, 0, 0, 0), none, some (.ireturn, 1, 0, 0, 0)]]
noncomputable def tb_57 : List (List (Option INS)) := tb_57_0 ++ (tb_57_1 ++ (tb_57_2))
noncomputable def tb_58_0 : List (List (Option INS)) := [[some (.aload_n 0, 1, 0, 0, 0), some (.iload_n 1, 1, 0, 0, 0), some (.invokevirtual 117, 3, 82, 304, 0), none, none, some (.ifCond .eq 28, 3, 0, 0, 0), none, none, some (.iload_n 2, 1, 0, 0, 0), some (.invokestatic 66, 3, 78, 210, 0), none, none, some (.ifCond .eq 21, 3, 0, 0, 0), none, none, some (.iload 4, 2, 0, 0, 0)],
  [none, some (.invokestatic 66, 3, 78, 210, 0), none, none, some (.ifCond .eq 13, 3, 0, 0, 0), none, none, some (.iload_n 3, 1, 0, 0, 0), some (.iconst (-1), 1, 0, 0, 0), some (.if_icmp .lt 8, 3, 0, 0, 0), none, none, some (.iload_n 3, 1, 0, 0, 0), some (.iconst 1, 1, 0, 0, 0), some (.if_icmp .le 5, 3, 0, 0, 0), none],
  [none, some (.iconst (-1), 1, 0, 0, 0), some (.ireturn, 1, 0, 0, 0), some (.aload_n 0, 1, 0, 0, 0), some (.aload_n 0, 1, 0, 0, 0), some (.getfield 11, 3, 3, 0, 166), none, none, some (.iload_n 2, 1, 0, 0, 0), some (.aaload, 1, 0, 0, 0), some (.iconst 3, 1, 0, 0, 0), some (.iconst 3, 1, 0, 0, 0), some (.iconst (-1), 1, 0, 0, 0), some (.bipush 9, 2, 0, 0, 0), none, some (.invokevirtual 196, 3, 85, 432, 0)],
  [none, none, some (.istore 5, 2, 0, 0, 0), none, some (.iload 5, 2, 0, 0, 0), none, some (.ifCond .eq 6, 3, 0, 0, 0), none, none, some (.iload 5, 2, 0, 0, 0), none, some (.ireturn, 1, 0, 0, 0), some (.aload_n 0, 1, 0, 0, 0), some (.getfield 50, 3, 3, 9, 175), none, none]]
noncomputable def tb_58_1 : List (List (Option INS)) := [[some (.aload_n 0, 1, 0, 0, 0), some (.getfield 21, 3, 3, 2, 168), none, none, some (.getfield 126, 3, 0, 0, 80), none, none, some (.iload_n 1, 1, 0, 0, 0), some (.iaload, 1, 0, 0, 0), some (.putfield 204, 3, 2, 2, 129), none, none, some (.aload_n 0, 1, 0, 0, 0), some (.getfield 50, 3, 3, 9, 175), none, none],
  [some (.aload_n 0, 1, 0, 0, 0), some (.getfield 21, 3, 3, 2, 168), none, none, some (.getfield 132, 3, 0, 8, 92), none, none, some (.putfield 206, 3, 2, 3, 131), none, none, some (.aload_n 0, 1, 0, 0, 0), some (.getfield 11, 3, 3, 0, 166), none, none, some (.iload_n 2, 1, 0, 0, 0), some (.aaload, 1, 0, 0, 0)],
  [some (.getfield 82, 3, 1, 0, 158), none, none, some (.iconst 0, 1, 0, 0, 0), some (.aload_n 0, 1, 0, 0, 0), some (.getfield 50, 3, 3, 9, 175), none, none, some (.getfield 209, 3, 2, 1, 127), none, none, some (.iconst 0, 1, 0, 0, 0), some (.iconst 3, 1, 0, 0, 0), some (.invokestatic 96, 3, 9999, 249, 0), none, none],
  [some (.aload_n 0, 1, 0, 0, 0), some (.getfield 50, 3, 3, 9, 175), none, none, some (.iload_n 3, 1, 0, 0, 0), some (.putfield 212, 3, 2, 5, 135), none, none, some (.iconst 0, 1, 0, 0, 0), some (.istore 6, 2, 0, 0, 0), none, some (.iload 6, 2, 0, 0, 0), none, some (.iconst 4, 1, 0, 0, 0), some (.if_icmp .gt 87, 3, 0, 0, 0), none]]
noncomputable def tb_58_2 : List (List (Option INS)) := [[none, some (.aload_n 0, 1, 0, 0, 0), some (.getfield 50, 3, 3, 9, 175), none, none, some (.iload 6, 2, 0, 0, 0), none, some (.putfield 215, 3, 2, 4, 133), none, none, some (.aload_n 0, 1, 0, 0, 0), some (.getfield 50, 3, 3, 9, 175), none, none, some (.iconst 0, 1, 0, 0, 0), some (.aload_n 0, 1, 0, 0, 0)],
  [some (.getfield 21, 3, 3, 2, 168), none, none, some (.getfield 138, 3, 0, 1, 82), none, none, some (.iload_n 1, 1, 0, 0, 0), some (.iaload, 1, 0, 0, 0), some (.aload_n 0, 1, 0, 0, 0), some (.getfield 21, 3, 3, 2, 168), none, none, some (.getfield 218, 3, 0, 2, 84), none, none, some (.iload_n 1, 1, 0, 0, 0)],
  [some (.iaload, 1, 0, 0, 0), some (.invokestatic 220, 3, 96, 441, 0), none, none, some (.ifCond .eq 43, 3, 0, 0, 0), none, none, some (.aload_n 0, 1, 0, 0, 0), some (.getfield 11, 3, 3, 0, 166), none, none, some (.iload 4, 2, 0, 0, 0), none, some (.aaload, 1, 0, 0, 0), some (.iload 6, 2, 0, 0, 0), none],
  [some (.iconst 0, 1, 0, 0, 0), some (.invokevirtual 74, 3, 35, 217, 0), none, none, some (.aload_n 0, 1, 0, 0, 0), some (.getfield 50, 3, 3, 9, 175), none, none, some (.getfield 224, 3, 2, 0, 125), none, none, some (.iconst 0, 1, 0, 0, 0), some (.aload_n 0, 1, 0, 0, 0), some (.getfield 11, 3, 3, 0, 166), none, none]]
noncomputable def tb_58_3 : List (List (Option INS)) := [[some (.iload 4, 2, 0, 0, 0), none, some (.aaload, 1, 0, 0, 0), some (.getfield 82, 3, 1, 0, 158), none, none, some (.iconst 0, 1, 0, 0, 0), some (.iload 6, 2, 0, 0, 0), none, some (.invokestatic 96, 3, 9999, 249, 0), none, none, some (.iload 6, 2, 0, 0, 0), none, some (.ireturn, 1, 0, 0, 0), some (.iinc 6 1, 3, 0, 0, 0)],
  [none, none, some (.goto (-87), 3, 0, 0, 0), none, none, some (.bipush (-9), 2, 0, 0, 0), none, some (.ireturn, 1, 0, 0, 0)]]
noncomputable def tb_58 : List (List (Option INS)) := tb_58_0 ++ (tb_58_1 ++ (tb_58_2 ++ (tb_58_3)))
noncomputable def tb_59_0 : List (List (Option INS)) := [[some (.aload_n 0, 1, 0, 0, 0), some (.iload_n 1, 1, 0, 0, 0), some (.invokevirtual 117, 3, 82, 304, 0), none, none, some (.ifCond .eq 12, 3, 0, 0, 0), none, none, some (.iload_n 2, 1, 0, 0, 0), some (.ifCond .lt 8, 3, 0, 0, 0), none, none, some (.iload_n 2, 1, 0, 0, 0), some (.iconst 4, 1, 0, 0, 0), some (.if_icmp .le 5, 3, 0, 0, 0), none],
  [none, some (.iconst (-1), 1, 0, 0, 0), some (.ireturn, 1, 0, 0, 0), some (.aload_n 0, 1, 0, 0, 0), some (.getfield 54, 3, 3, 10, 176), none, none, some (.bipush (-9), 2, 0, 0, 0), none, some (.invokestatic 227, 3, 189, 451, 0), none, none, some (.aload_n 0, 1, 0, 0, 0), some (.getfield 54, 3, 3, 10, 176), none, none],
  [some (.aload_n 0, 1, 0, 0, 0), some (.getfield 21, 3, 3, 2, 168), none, none, some (.getfield 138, 3, 0, 1, 82), none, none, some (.iload_n 1, 1, 0, 0, 0), some (.iaload, 1, 0, 0, 0), some (.iconst 0, 1, 0, 0, 0), some (.iastore, 1, 0, 0, 0), some (.iconst 1, 1, 0, 0, 0), some (.istore_n 3, 1, 0, 0, 0), some (.iconst 0, 1, 0, 0, 0), some (.istore 4, 2, 0, 0, 0), none],
  [some (.iload 4, 2, 0, 0, 0), none, some (.iload_n 2, 1, 0, 0, 0), some (.if_icmp .ge 27, 3, 0, 0, 0), none, none, some (.iload_n 3, 1, 0, 0, 0), some (.aload_n 0, 1, 0, 0, 0), some (.aload_n 0, 1, 0, 0, 0), some (.getfield 21, 3, 3, 2, 168), none, none, some (.getfield 126, 3, 0, 0, 80), none, none, some (.iload_n 1, 1, 0, 0, 0)]]
noncomputable def tb_59_1 : List (List (Option INS)) := [[some (.iaload, 1, 0, 0, 0), some (.iload 4, 2, 0, 0, 0), none, some (.invokevirtual 233, 3, 97, 454, 0), none, none, some (.iadd, 1, 0, 0, 0), some (.istore_n 3, 1, 0, 0, 0), some (.iinc 4 1, 3, 0, 0, 0), none, none, some (.goto (-27), 3, 0, 0, 0), none, none, some (.aload_n 0, 1, 0, 0, 0), some (.iload_n 3, 1, 0, 0, 0)],
  [some (.i2l, 1, 0, 0, 0), some (.lconst 1, 1, 0, 0, 0), some (.invokevirtual 236, 3, 94, 461, 0), none, none, some (.iconst 1, 1, 0, 0, 0), some (.ireturn, 1, 0, 0, 0)]]
noncomputable def tb_59 : List (List (Option INS)) := tb_59_0 ++ (tb_59_1)
noncomputable def tb_60_0 : List (List (Option INS)) := [[some (.aload_n 0, 1, 0, 0, 0), some (.iload_n 1, 1, 0, 0, 0), some (.invokevirtual 117, 3, 82, 304, 0), none, none, some (.ifCond .eq 10, 3, 0, 0, 0), none, none, some (.iload_n 2, 1, 0, 0, 0), some (.invokestatic 66, 3, 78, 210, 0), none, none, some (.ifCond .ne 5, 3, 0, 0, 0), none, none, some (.iconst (-1), 1, 0, 0, 0)],
  [some (.ireturn, 1, 0, 0, 0), some (.aload_n 0, 1, 0, 0, 0), some (.aload_n 0, 1, 0, 0, 0), some (.getfield 11, 3, 3, 0, 166), none, none, some (.iload_n 2, 1, 0, 0, 0), some (.aaload, 1, 0, 0, 0), some (.iconst 3, 1, 0, 0, 0), some (.iconst 3, 1, 0, 0, 0), some (.iconst (-1), 1, 0, 0, 0), some (.bipush 9, 2, 0, 0, 0), none, some (.invokevirtual 196, 3, 85, 432, 0), none, none],
  [some (.istore_n 3, 1, 0, 0, 0), some (.iload_n 3, 1, 0, 0, 0), some (.ifCond .eq 5, 3, 0, 0, 0), none, none, some (.iload_n 3, 1, 0, 0, 0), some (.ireturn, 1, 0, 0, 0), some (.iconst 0, 1, 0, 0, 0), some (.istore 4, 2, 0, 0, 0), none, some (.iconst 0, 1, 0, 0, 0), some (.istore 5, 2, 0, 0, 0), none, some (.iload 5, 2, 0, 0, 0), none, some (.bipush 7, 2, 0, 0, 0)],
  [none, some (.if_icmp .ge 63, 3, 0, 0, 0), none, none, some (.aload_n 0, 1, 0, 0, 0), some (.getfield 21, 3, 3, 2, 168), none, none, some (.getfield 126, 3, 0, 0, 80), none, none, some (.iload_n 1, 1, 0, 0, 0), some (.iaload, 1, 0, 0, 0), some (.aload_n 0, 1, 0, 0, 0), some (.getfield 21, 3, 3, 2, 168), none]]
noncomputable def tb_60_1 : List (List (Option INS)) := [[none, some (.getfield 138, 3, 0, 1, 82), none, none, some (.iload_n 1, 1, 0, 0, 0), some (.iaload, 1, 0, 0, 0), some (.iload 5, 2, 0, 0, 0), none, some (.aload_n 0, 1, 0, 0, 0), some (.getfield 21, 3, 3, 2, 168), none, none, some (.getfield 132, 3, 0, 8, 92), none, none, some (.invokestatic 240, 3, 24, 458, 0)],
  [none, none, some (.aload_n 0, 1, 0, 0, 0), some (.getfield 11, 3, 3, 0, 166), none, none, some (.iload_n 2, 1, 0, 0, 0), some (.aaload, 1, 0, 0, 0), some (.getfield 82, 3, 1, 0, 158), none, none, some (.invokestatic 243, 3, 31, 444, 0), none, none, some (.ifCond .eq 12, 3, 0, 0, 0), none],
  [none, some (.iload 4, 2, 0, 0, 0), none, some (.iconst 1, 1, 0, 0, 0), some (.iload 5, 2, 0, 0, 0), none, some (.ishl, 1, 0, 0, 0), some (.ior, 1, 0, 0, 0), some (.istore 4, 2, 0, 0, 0), none, some (.iinc 5 1, 3, 0, 0, 0), none, none, some (.goto (-64), 3, 0, 0, 0), none, none],
  [some (.iload 4, 2, 0, 0, 0), none, some (.ireturn, 1, 0, 0, 0)]]
noncomputable def tb_60 : List (List (Option INS)) := tb_60_0 ++ (tb_60_1)
noncomputable def tb_61 : List (List (Option INS)) := [[some (.aload_n 0, 1, 0, 0, 0), some (.iload_n 1, 1, 0, 0, 0), some (.invokevirtual 117, 3, 82, 304, 0), none, none, some (.ifCond .eq 10, 3, 0, 0, 0), none, none, some (.iload_n 2, 1, 0, 0, 0), some (.invokestatic 66, 3, 78, 210, 0), none, none, some (.ifCond .ne 5, 3, 0, 0, 0), none, none, some (.iconst (-1), 1, 0, 0, 0)],
  [some (.ireturn, 1, 0, 0, 0), some (.aload_n 0, 1, 0, 0, 0), some (.aload_n 0, 1, 0, 0, 0), some (.getfield 11, 3, 3, 0, 166), none, none, some (.iload_n 2, 1, 0, 0, 0), some (.aaload, 1, 0, 0, 0), some (.invokevirtual 247, 3, 86, 476, 0), none, none, some (.istore_n 3, 1, 0, 0, 0), some (.iload_n 3, 1, 0, 0, 0), some (.ifCond .eq 5, 3, 0, 0, 0), none, none],
  [some (.iload_n 3, 1, 0, 0, 0), some (.ireturn, 1, 0, 0, 0), some (.aload_n 0, 1, 0, 0, 0), some (.iload_n 1, 1, 0, 0, 0), some (.aload_n 0, 1, 0, 0, 0), some (.getfield 11, 3, 3, 0, 166), none, none, some (.iload_n 2, 1, 0, 0, 0), some (.aaload, 1, 0, 0, 0), some (.invokevirtual 250, 3, 99, 480, 0), none, none, some (.ireturn, 1, 0, 0, 0)]]
noncomputable def tb_62_0 : List (List (Option INS)) := [[some (.aload_n 0, 1, 0, 0, 0), some (.iload_n 1, 1, 0, 0, 0), some (.invokevirtual 117, 3, 82, 304, 0), none, none, some (.ifCond .eq 10, 3, 0, 0, 0), none, none, some (.iload_n 2, 1, 0, 0, 0), some (.invokestatic 66, 3, 78, 210, 0), none, none, some (.ifCond .ne 5, 3, 0, 0, 0), none, none, some (.iconst (-1), 1, 0, 0, 0)],
  [some (.ireturn, 1, 0, 0, 0), some (.aload_n 0, 1, 0, 0, 0), some (.aload_n 0, 1, 0, 0, 0), some (.getfield 11, 3, 3, 0, 166), none, none, some (.iload_n 2, 1, 0, 0, 0), some (.aaload, 1, 0, 0, 0), some (.invokevirtual 247, 3, 86, 476, 0), none, none, some (.istore_n 3, 1, 0, 0, 0), some (.iload_n 3, 1, 0, 0, 0), some (.ifCond .eq 5, 3, 0, 0, 0), none, none],
  [some (.iload_n 3, 1, 0, 0, 0), some (.ireturn, 1, 0, 0, 0), some (.aload_n 0, 1, 0, 0, 0), some (.iload_n 1, 1, 0, 0, 0), some (.aload_n 0, 1, 0, 0, 0), some (.getfield 11, 3, 3, 0, 166), none, none, some (.iload_n 2, 1, 0, 0, 0), some (.aaload, 1, 0, 0, 0), some (.invokevirtual 250, 3, 99, 480, 0), none, none, some (.istore 4, 2, 0, 0, 0), none, some (.iload 4, 2, 0, 0, 0)],
  [none, some (.ifCond .ne 6, 3, 0, 0, 0), none, none, some (.bipush (-9), 2, 0, 0, 0), none, some (.ireturn, 1, 0, 0, 0), some (.iconst 0, 1, 0, 0, 0), some (.istore 5, 2, 0, 0, 0), none, some (.bipush 7, 2, 0, 0, 0), none, some (.istore 6, 2, 0, 0, 0), none, some (.iconst 0, 1, 0, 0, 0), some (.istore 7, 2, 0, 0, 0)]]
noncomputable def tb_62_1 : List (List (Option INS)) := [[none, some (.iload 7, 2, 0, 0, 0), none, some (.bipush 7, 2, 0, 0, 0), none, some (.if_icmp .ge 43, 3, 0, 0, 0), none, none, some (.aload_n 0, 1, 0, 0, 0), some (.iload 4, 2, 0, 0, 0), none, some (.aload_n 0, 1, 0, 0, 0), some (.getfield 21, 3, 3, 2, 168), none, none, some (.getfield 138, 3, 0, 1, 82)],
  [none, none, some (.iload_n 1, 1, 0, 0, 0), some (.iaload, 1, 0, 0, 0), some (.iload 7, 2, 0, 0, 0), none, some (.invokevirtual 254, 3, 101, 493, 0), none, none, some (.istore 8, 2, 0, 0, 0), none, some (.iload 8, 2, 0, 0, 0), none, some (.iload 6, 2, 0, 0, 0), none, some (.if_icmp .ge 11, 3, 0, 0, 0)],
  [none, none, some (.iload 8, 2, 0, 0, 0), none, some (.istore 6, 2, 0, 0, 0), none, some (.iload 7, 2, 0, 0, 0), none, some (.istore 5, 2, 0, 0, 0), none, some (.iinc 7 1, 3, 0, 0, 0), none, none, some (.goto (-44), 3, 0, 0, 0), none, none],
  [some (.aload_n 0, 1, 0, 0, 0), some (.iload 6, 2, 0, 0, 0), none, some (.putfield 37, 3, 3, 6, 172), none, none, some (.iload 5, 2, 0, 0, 0), none, some (.ireturn, 1, 0, 0, 0)]]
noncomputable def tb_62 : List (List (Option INS)) := tb_62_0 ++ (tb_62_1)
noncomputable def tb_63_0 : List (List (Option INS)) := [[some (.iload_n 1, 1, 0, 0, 0), some (.ifCond .lt 9, 3, 0, 0, 0), none, none, some (.iload_n 1, 1, 0, 0, 0), some (.bipush 99, 2, 0, 0, 0), none, some (.if_icmp .le 5, 3, 0, 0, 0), none, none, some (.iconst (-1), 1, 0, 0, 0), some (.ireturn, 1, 0, 0, 0), some (.aload_n 0, 1, 0, 0, 0), some (.getfield 21, 3, 3, 2, 168), none, none],
  [some (.invokevirtual 183, 3, 2, 409, 0), none, none, some (.ifCond .eq 6, 3, 0, 0, 0), none, none, some (.bipush (-4), 2, 0, 0, 0), none, some (.ireturn, 1, 0, 0, 0), some (.aload_n 0, 1, 0, 0, 0), some (.getfield 21, 3, 3, 2, 168), none, none, some (.invokevirtual 257, 3, 17, 502, 0), none, none],
  [some (.iload_n 1, 1, 0, 0, 0), some (.if_icmp .le 6, 3, 0, 0, 0), none, none, some (.bipush (-9), 2, 0, 0, 0), none, some (.ireturn, 1, 0, 0, 0), some (.aload_n 0, 1, 0, 0, 0), some (.getfield 21, 3, 3, 2, 168), none, none, some (.invokevirtual 261, 3, 15, 508, 0), none, none, some (.iconst 1, 1, 0, 0, 0), some (.isub, 1, 0, 0, 0)],
  [some (.istore_n 2, 1, 0, 0, 0), some (.aload_n 0, 1, 0, 0, 0), some (.getfield 60, 3, 3, 12, 178), none, none, some (.iconst 0, 1, 0, 0, 0), some (.iconst 0, 1, 0, 0, 0), some (.iastore, 1, 0, 0, 0), some (.iconst 1, 1, 0, 0, 0), some (.istore_n 3, 1, 0, 0, 0), some (.iload_n 3, 1, 0, 0, 0), some (.iload_n 2, 1, 0, 0, 0), some (.if_icmp .gt 21, 3, 0, 0, 0), none, none, some (.aload_n 0, 1, 0, 0, 0)]]
noncomputable def tb_63_1 : List (List (Option INS)) := [[some (.getfield 60, 3, 3, 12, 178), none, none, some (.iload_n 3, 1, 0, 0, 0), some (.aload_n 0, 1, 0, 0, 0), some (.iload_n 3, 1, 0, 0, 0), some (.iload_n 1, 1, 0, 0, 0), some (.invokevirtual 264, 3, 102, 512, 0), none, none, some (.iastore, 1, 0, 0, 0), some (.iinc 3 1, 3, 0, 0, 0), none, none, some (.goto (-20), 3, 0, 0, 0), none],
  [none, some (.aload_n 0, 1, 0, 0, 0), some (.aload_n 0, 1, 0, 0, 0), some (.iload_n 2, 1, 0, 0, 0), some (.iload_n 1, 1, 0, 0, 0), some (.invokevirtual 267, 3, 103, 527, 0), none, none, some (.putfield 37, 3, 3, 6, 172), none, none, some (.aload_n 0, 1, 0, 0, 0), some (.getfield 60, 3, 3, 12, 178), none, none, some (.iload_n 2, 1, 0, 0, 0)],
  [some (.iaload, 1, 0, 0, 0), some (.ireturn, 1, 0, 0, 0)]]
noncomputable def tb_63 : List (List (Option INS)) := tb_63_0 ++ (tb_63_1)
noncomputable def tb_64_0 : List (List (Option INS)) := [[some (.iload_n 1, 1, 0, 0, 0), some (.ifCond .lt 10, 3, 0, 0, 0), none, none, some (.iload_n 1, 1, 0, 0, 0), some (.sipush 180, 3, 0, 0, 0), none, none, some (.if_icmp .le 5, 3, 0, 0, 0), none, none, some (.iconst (-1), 1, 0, 0, 0), some (.ireturn, 1, 0, 0, 0), some (.aload_n 0, 1, 0, 0, 0), some (.getfield 21, 3, 3, 2, 168), none],
  [none, some (.invokevirtual 183, 3, 2, 409, 0), none, none, some (.ifCond .eq 6, 3, 0, 0, 0), none, none, some (.bipush (-4), 2, 0, 0, 0), none, some (.ireturn, 1, 0, 0, 0), some (.bipush (-9), 2, 0, 0, 0), none, some (.istore_n 2, 1, 0, 0, 0), some (.iconst 0, 1, 0, 0, 0), some (.istore_n 3, 1, 0, 0, 0), some (.iconst 0, 1, 0, 0, 0)],
  [some (.istore 4, 2, 0, 0, 0), none, some (.iload 4, 2, 0, 0, 0), none, some (.aload_n 0, 1, 0, 0, 0), some (.getfield 21, 3, 3, 2, 168), none, none, some (.invokevirtual 261, 3, 15, 508, 0), none, none, some (.if_icmp .ge 36, 3, 0, 0, 0), none, none, some (.aload_n 0, 1, 0, 0, 0), some (.getfield 21, 3, 3, 2, 168)],
  [none, none, some (.iload 4, 2, 0, 0, 0), none, some (.invokevirtual 270, 3, 16, 520, 0), none, none, some (.iload_n 1, 1, 0, 0, 0), some (.if_icmp .ne 17, 3, 0, 0, 0), none, none, some (.iload_n 3, 1, 0, 0, 0), some (.ifCond .ne 8, 3, 0, 0, 0), none, none, some (.iload 4, 2, 0, 0, 0)]]
noncomputable def tb_64_1 : List (List (Option INS)) := [[none, some (.goto 4, 3, 0, 0, 0), none, none, some (.iload_n 2, 1, 0, 0, 0), some (.istore_n 2, 1, 0, 0, 0), some (.iinc 3 1, 3, 0, 0, 0), none, none, some (.iinc 4 1, 3, 0, 0, 0), none, none, some (.goto (-42), 3, 0, 0, 0), none, none, some (.aload_n 0, 1, 0, 0, 0)],
  [some (.iload_n 2, 1, 0, 0, 0), some (.putfield 37, 3, 3, 6, 172), none, none, some (.aload_n 0, 1, 0, 0, 0), some (.iload_n 3, 1, 0, 0, 0), some (.i2l, 1, 0, 0, 0), some (.lconst 1, 1, 0, 0, 0), some (.invokevirtual 236, 3, 94, 461, 0), none, none, some (.iconst 1, 1, 0, 0, 0), some (.ireturn, 1, 0, 0, 0)]]
noncomputable def tb_64 : List (List (Option INS)) := tb_64_0 ++ (tb_64_1)
noncomputable def tb_65_0 : List (List (Option INS)) := [[some (.iload_n 1, 1, 0, 0, 0), some (.ifCond .lt 10, 3, 0, 0, 0), none, none, some (.iload_n 1, 1, 0, 0, 0), some (.sipush 180, 3, 0, 0, 0), none, none, some (.if_icmp .le 5, 3, 0, 0, 0), none, none, some (.iconst (-1), 1, 0, 0, 0), some (.ireturn, 1, 0, 0, 0), some (.aload_n 0, 1, 0, 0, 0), some (.getfield 21, 3, 3, 2, 168), none],
  [none, some (.invokevirtual 183, 3, 2, 409, 0), none, none, some (.ifCond .eq 6, 3, 0, 0, 0), none, none, some (.bipush (-4), 2, 0, 0, 0), none, some (.ireturn, 1, 0, 0, 0), some (.aload_n 0, 1, 0, 0, 0), some (.getfield 21, 3, 3, 2, 168), none, none, some (.invokevirtual 261, 3, 15, 508, 0), none],
  [none, some (.iconst 1, 1, 0, 0, 0), some (.isub, 1, 0, 0, 0), some (.istore_n 2, 1, 0, 0, 0), some (.iload_n 2, 1, 0, 0, 0), some (.istore_n 3, 1, 0, 0, 0), some (.iconst 0, 1, 0, 0, 0), some (.istore 4, 2, 0, 0, 0), none, some (.iconst 0, 1, 0, 0, 0), some (.istore 5, 2, 0, 0, 0), none, some (.iconst 0, 1, 0, 0, 0), some (.istore 6, 2, 0, 0, 0), none, some (.iload 6, 2, 0, 0, 0)],
  [none, some (.iload_n 2, 1, 0, 0, 0), some (.if_icmp .gt 37, 3, 0, 0, 0), none, none, some (.aload_n 0, 1, 0, 0, 0), some (.getfield 21, 3, 3, 2, 168), none, none, some (.iload 6, 2, 0, 0, 0), none, some (.invokevirtual 270, 3, 16, 520, 0), none, none, some (.iload_n 1, 1, 0, 0, 0), some (.if_icmp .ne 18, 3, 0, 0, 0)]]
noncomputable def tb_65_1 : List (List (Option INS)) := [[none, none, some (.iload_n 3, 1, 0, 0, 0), some (.iload 6, 2, 0, 0, 0), none, some (.iand, 1, 0, 0, 0), some (.istore_n 3, 1, 0, 0, 0), some (.iload 4, 2, 0, 0, 0), none, some (.iload 6, 2, 0, 0, 0), none, some (.ior, 1, 0, 0, 0), some (.istore 4, 2, 0, 0, 0), none, some (.iconst 1, 1, 0, 0, 0), some (.istore 5, 2, 0, 0, 0)],
  [none, some (.iinc 6 1, 3, 0, 0, 0), none, none, some (.goto (-37), 3, 0, 0, 0), none, none, some (.iload 5, 2, 0, 0, 0), none, some (.ifCond .ne 9, 3, 0, 0, 0), none, none, some (.aload_n 0, 1, 0, 0, 0), some (.iconst 4, 1, 0, 0, 0), some (.invokevirtual 70, 3, 83, 213, 0), none],
  [none, some (.ireturn, 1, 0, 0, 0), some (.aload_n 0, 1, 0, 0, 0), some (.iload_n 2, 1, 0, 0, 0), some (.iload 4, 2, 0, 0, 0), none, some (.iconst (-1), 1, 0, 0, 0), some (.ixor, 1, 0, 0, 0), some (.iand, 1, 0, 0, 0), some (.putfield 37, 3, 3, 6, 172), none, none, some (.iload_n 3, 1, 0, 0, 0), some (.ireturn, 1, 0, 0, 0)]]
noncomputable def tb_65 : List (List (Option INS)) := tb_65_0 ++ (tb_65_1)
noncomputable def tb_66_0 : List (List (Option INS)) := [[some (.aload_n 0, 1, 0, 0, 0), some (.iload_n 1, 1, 0, 0, 0), some (.invokevirtual 117, 3, 82, 304, 0), none, none, some (.ifCond .eq 16, 3, 0, 0, 0), none, none, some (.aload_n 0, 1, 0, 0, 0), some (.iload_n 2, 1, 0, 0, 0), some (.invokevirtual 117, 3, 82, 304, 0), none, none, some (.ifCond .eq 8, 3, 0, 0, 0), none, none],
  [some (.iload_n 1, 1, 0, 0, 0), some (.iload_n 2, 1, 0, 0, 0), some (.if_icmp .ne 5, 3, 0, 0, 0), none, none, some (.iconst (-1), 1, 0, 0, 0), some (.ireturn, 1, 0, 0, 0), some (.bipush (-9), 2, 0, 0, 0), none, some (.istore_n 3, 1, 0, 0, 0), some (.iconst 0, 1, 0, 0, 0), some (.istore 4, 2, 0, 0, 0), none, some (.iconst 0, 1, 0, 0, 0), some (.istore 5, 2, 0, 0, 0), none],
  [some (.iload 5, 2, 0, 0, 0), none, some (.bipush 7, 2, 0, 0, 0), none, some (.if_icmp .ge 115, 3, 0, 0, 0), none, none, some (.aload_n 0, 1, 0, 0, 0), some (.getfield 21, 3, 3, 2, 168), none, none, some (.getfield 126, 3, 0, 0, 80), none, none, some (.iload_n 1, 1, 0, 0, 0), some (.iaload, 1, 0, 0, 0)],
  [some (.aload_n 0, 1, 0, 0, 0), some (.getfield 21, 3, 3, 2, 168), none, none, some (.getfield 138, 3, 0, 1, 82), none, none, some (.iload_n 1, 1, 0, 0, 0), some (.iaload, 1, 0, 0, 0), some (.iload 5, 2, 0, 0, 0), none, some (.aload_n 0, 1, 0, 0, 0), some (.getfield 21, 3, 3, 2, 168), none, none, some (.getfield 132, 3, 0, 8, 92)]]
noncomputable def tb_66_1 : List (List (Option INS)) := [[none, none, some (.invokestatic 240, 3, 24, 458, 0), none, none, some (.istore 6, 2, 0, 0, 0), none, some (.iconst 0, 1, 0, 0, 0), some (.istore 7, 2, 0, 0, 0), none, some (.iload 7, 2, 0, 0, 0), none, some (.bipush 7, 2, 0, 0, 0), none, some (.if_icmp .ge 67, 3, 0, 0, 0), none],
  [none, some (.iload 6, 2, 0, 0, 0), none, some (.aload_n 0, 1, 0, 0, 0), some (.getfield 21, 3, 3, 2, 168), none, none, some (.getfield 126, 3, 0, 0, 80), none, none, some (.iload_n 2, 1, 0, 0, 0), some (.iaload, 1, 0, 0, 0), some (.aload_n 0, 1, 0, 0, 0), some (.getfield 21, 3, 3, 2, 168), none, none],
  [some (.getfield 138, 3, 0, 1, 82), none, none, some (.iload_n 2, 1, 0, 0, 0), some (.iaload, 1, 0, 0, 0), some (.iload 7, 2, 0, 0, 0), none, some (.aload_n 0, 1, 0, 0, 0), some (.getfield 21, 3, 3, 2, 168), none, none, some (.getfield 132, 3, 0, 8, 92), none, none, some (.iconst 1, 1, 0, 0, 0), some (.iadd, 1, 0, 0, 0)],
  [some (.invokestatic 240, 3, 24, 458, 0), none, none, some (.if_icmp .ne 24, 3, 0, 0, 0), none, none, some (.iload 4, 2, 0, 0, 0), none, some (.ifCond .ne 14, 3, 0, 0, 0), none, none, some (.bipush 10, 2, 0, 0, 0), none, some (.iload 5, 2, 0, 0, 0), none, some (.imul, 1, 0, 0, 0)]]
noncomputable def tb_66_2 : List (List (Option INS)) := [[some (.iload 7, 2, 0, 0, 0), none, some (.iadd, 1, 0, 0, 0), some (.goto 4, 3, 0, 0, 0), none, none, some (.iload_n 3, 1, 0, 0, 0), some (.istore_n 3, 1, 0, 0, 0), some (.iinc 4 1, 3, 0, 0, 0), none, none, some (.iinc 7 1, 3, 0, 0, 0), none, none, some (.goto (-68), 3, 0, 0, 0), none],
  [none, some (.iinc 5 1, 3, 0, 0, 0), none, none, some (.goto (-116), 3, 0, 0, 0), none, none, some (.iload 4, 2, 0, 0, 0), none, some (.ifCond .ne 6, 3, 0, 0, 0), none, none, some (.bipush (-9), 2, 0, 0, 0), none, some (.ireturn, 1, 0, 0, 0), some (.aload_n 0, 1, 0, 0, 0)],
  [some (.iload_n 3, 1, 0, 0, 0), some (.putfield 37, 3, 3, 6, 172), none, none, some (.iload 4, 2, 0, 0, 0), none, some (.ireturn, 1, 0, 0, 0)]]
noncomputable def tb_66 : List (List (Option INS)) := tb_66_0 ++ (tb_66_1 ++ (tb_66_2))
noncomputable def tb_67_0 : List (List (Option INS)) := [[some (.aload_n 0, 1, 0, 0, 0), some (.iload_n 1, 1, 0, 0, 0), some (.invokevirtual 117, 3, 82, 304, 0), none, none, some (.ifCond .eq 25, 3, 0, 0, 0), none, none, some (.aload_n 0, 1, 0, 0, 0), some (.iload_n 2, 1, 0, 0, 0), some (.invokevirtual 117, 3, 82, 304, 0), none, none, some (.ifCond .eq 17, 3, 0, 0, 0), none, none],
  [some (.iload_n 1, 1, 0, 0, 0), some (.iload_n 2, 1, 0, 0, 0), some (.if_icmp .eq 12, 3, 0, 0, 0), none, none, some (.iload_n 3, 1, 0, 0, 0), some (.ifCond .lt 8, 3, 0, 0, 0), none, none, some (.iload_n 3, 1, 0, 0, 0), some (.iconst 2, 1, 0, 0, 0), some (.if_icmp .le 5, 3, 0, 0, 0), none, none, some (.iconst (-1), 1, 0, 0, 0), some (.ireturn, 1, 0, 0, 0)],
  [some (.aload_n 0, 1, 0, 0, 0), some (.getfield 21, 3, 3, 2, 168), none, none, some (.getfield 126, 3, 0, 0, 80), none, none, some (.iload_n 1, 1, 0, 0, 0), some (.iaload, 1, 0, 0, 0), some (.aload_n 0, 1, 0, 0, 0), some (.getfield 21, 3, 3, 2, 168), none, none, some (.getfield 138, 3, 0, 1, 82), none, none],
  [some (.iload_n 1, 1, 0, 0, 0), some (.iaload, 1, 0, 0, 0), some (.aload_n 0, 1, 0, 0, 0), some (.getfield 21, 3, 3, 2, 168), none, none, some (.getfield 132, 3, 0, 8, 92), none, none, some (.iload_n 3, 1, 0, 0, 0), some (.invokestatic 273, 3, 98, 547, 0), none, none, some (.istore 4, 2, 0, 0, 0), none, some (.aload_n 0, 1, 0, 0, 0)]]
noncomputable def tb_67_1 : List (List (Option INS)) := [[some (.getfield 21, 3, 3, 2, 168), none, none, some (.getfield 126, 3, 0, 0, 80), none, none, some (.iload_n 2, 1, 0, 0, 0), some (.iaload, 1, 0, 0, 0), some (.aload_n 0, 1, 0, 0, 0), some (.getfield 21, 3, 3, 2, 168), none, none, some (.getfield 138, 3, 0, 1, 82), none, none, some (.iload_n 2, 1, 0, 0, 0)],
  [some (.iaload, 1, 0, 0, 0), some (.aload_n 0, 1, 0, 0, 0), some (.getfield 21, 3, 3, 2, 168), none, none, some (.getfield 132, 3, 0, 8, 92), none, none, some (.iconst 1, 1, 0, 0, 0), some (.iadd, 1, 0, 0, 0), some (.iload_n 3, 1, 0, 0, 0), some (.invokestatic 273, 3, 98, 547, 0), none, none, some (.istore 5, 2, 0, 0, 0), none],
  [some (.aload_n 0, 1, 0, 0, 0), some (.iload 4, 2, 0, 0, 0), none, some (.iload 5, 2, 0, 0, 0), none, some (.isub, 1, 0, 0, 0), some (.putfield 37, 3, 3, 6, 172), none, none, some (.iconst 1, 1, 0, 0, 0), some (.ireturn, 1, 0, 0, 0)]]
noncomputable def tb_67 : List (List (Option INS)) := tb_67_0 ++ (tb_67_1)
noncomputable def tb_68 : List (List (Option INS)) := [[some (.aload_n 0, 1, 0, 0, 0), some (.iload_n 1, 1, 0, 0, 0), some (.iload_n 2, 1, 0, 0, 0), some (.iload_n 3, 1, 0, 0, 0), some (.iconst 1, 1, 0, 0, 0), some (.invokevirtual 276, 3, 105, 554, 0), none, none, some (.ireturn, 1, 0, 0, 0)]]
noncomputable def tb_69 : List (List (Option INS)) := [[some (.aload_n 0, 1, 0, 0, 0), some (.iload_n 1, 1, 0, 0, 0), some (.iload_n 2, 1, 0, 0, 0), some (.iload_n 3, 1, 0, 0, 0), some (.iconst 0, 1, 0, 0, 0), some (.invokevirtual 276, 3, 105, 554, 0), none, none, some (.ireturn, 1, 0, 0, 0)]]
noncomputable def tb_70_0 : List (List (Option INS)) := [[some (.iload_n 1, 1, 0, 0, 0), some (.iconst 1, 1, 0, 0, 0), some (.if_icmp .lt 23, 3, 0, 0, 0), none, none, some (.iload_n 1, 1, 0, 0, 0), some (.bipush 20, 2, 0, 0, 0), none, some (.if_icmp .gt 17, 3, 0, 0, 0), none, none, some (.iload_n 2, 1, 0, 0, 0), some (.iconst 1, 1, 0, 0, 0), some (.if_icmp .lt 12, 3, 0, 0, 0), none, none],
  [some (.iload_n 2, 1, 0, 0, 0), some (.i2l, 1, 0, 0, 0), some (.ldc2_w 280, 3, 575, 0, 2147483647), none, none, some (.lcmp, 1, 0, 0, 0), some (.ifCond .lt 5, 3, 0, 0, 0), none, none, some (.iconst (-1), 1, 0, 0, 0), some (.ireturn, 1, 0, 0, 0), some (.aload_n 0, 1, 0, 0, 0), some (.getfield 21, 3, 3, 2, 168), none, none, some (.invokevirtual 183, 3, 2, 409, 0)],
  [none, none, some (.ifCond .eq 6, 3, 0, 0, 0), none, none, some (.bipush (-4), 2, 0, 0, 0), none, some (.ireturn, 1, 0, 0, 0), some (.aload_n 0, 1, 0, 0, 0), some (.getfield 21, 3, 3, 2, 168), none, none, some (.iload_n 1, 1, 0, 0, 0), some (.invokevirtual 161, 3, 6, 371, 0), none, none],
  [some (.ifCond .ne 6, 3, 0, 0, 0), none, none, some (.bipush (-2), 2, 0, 0, 0), none, some (.ireturn, 1, 0, 0, 0), some (.iload_n 2, 1, 0, 0, 0), some (.i2l, 1, 0, 0, 0), some (.lstore_n 3, 1, 0, 0, 0), some (.iconst 0, 1, 0, 0, 0), some (.istore 5, 2, 0, 0, 0), none, some (.iload 5, 2, 0, 0, 0), none, some (.iload_n 1, 1, 0, 0, 0), some (.if_icmp .ge 28, 3, 0, 0, 0)]]
noncomputable def tb_70_1 : List (List (Option INS)) := [[none, none, some (.lload_n 3, 1, 0, 0, 0), some (.ldc2_w 282, 3, 576, 0, 48271), none, none, some (.lmul, 1, 0, 0, 0), some (.ldc2_w 280, 3, 575, 0, 2147483647), none, none, some (.lrem, 1, 0, 0, 0), some (.lstore_n 3, 1, 0, 0, 0), some (.aload_n 0, 1, 0, 0, 0), some (.getfield 21, 3, 3, 2, 168), none, none],
  [some (.lload_n 3, 1, 0, 0, 0), some (.l2i, 1, 0, 0, 0), some (.invokevirtual 284, 3, 10, 577, 0), none, none, some (.iinc 5 1, 3, 0, 0, 0), none, none, some (.goto (-28), 3, 0, 0, 0), none, none, some (.aload_n 0, 1, 0, 0, 0), some (.getfield 21, 3, 3, 2, 168), none, none, some (.invokevirtual 287, 3, 12, 583, 0)],
  [none, none, some (.ireturn, 1, 0, 0, 0)]]
noncomputable def tb_70 : List (List (Option INS)) := tb_70_0 ++ (tb_70_1)
noncomputable def tb_71 : List (List (Option INS)) := [[some (.aload_n 0, 1, 0, 0, 0), some (.getfield 37, 3, 3, 6, 172), none, none, some (.ireturn, 1, 0, 0, 0)]]
noncomputable def tb_72 : List (List (Option INS)) := [[some (.aload_n 0, 1, 0, 0, 0), some (.getfield 40, 3, 3, 7, 173), none, none, some (.lreturn, 1, 0, 0, 0)]]
noncomputable def tb_73 : List (List (Option INS)) := [[some (.aload_n 0, 1, 0, 0, 0), some (.getfield 44, 3, 3, 8, 174), none, none, some (.lreturn, 1, 0, 0, 0)]]
noncomputable def tb_74_0 : List (List (Option INS)) := [[some (.iload_n 1, 1, 0, 0, 0), some (.tableswitch 143 0 9 #[55, 63, 71, 79, 87, 104, 113, 122, 130, 138], 55, 0, 0, 0), none, none, none, none, none, none, none, none, none, none, none, none, none, none],
  [none, none, none, none, none, none, none, none, none, none, none, none, none, none, none, none],
  [none, none, none, none, none, none, none, none, none, none, none, none, none, none, none, none],
  [none, none, none, none, none, none, none, none, some (.aload_n 0, 1, 0, 0, 0), some (.getfield 21, 3, 3, 2, 168), none, none, some (.getfield 116, 3, 0, 7, 90), none, none, some (.ireturn, 1, 0, 0, 0)]]
noncomputable def tb_74_1 : List (List (Option INS)) := [[some (.aload_n 0, 1, 0, 0, 0), some (.getfield 21, 3, 3, 2, 168), none, none, some (.getfield 132, 3, 0, 8, 92), none, none, some (.ireturn, 1, 0, 0, 0), some (.aload_n 0, 1, 0, 0, 0), some (.getfield 21, 3, 3, 2, 168), none, none, some (.getfield 174, 3, 0, 9, 94), none, none, some (.ireturn, 1, 0, 0, 0)],
  [some (.aload_n 0, 1, 0, 0, 0), some (.getfield 21, 3, 3, 2, 168), none, none, some (.invokevirtual 287, 3, 12, 583, 0), none, none, some (.ireturn, 1, 0, 0, 0), some (.aload_n 0, 1, 0, 0, 0), some (.getfield 21, 3, 3, 2, 168), none, none, some (.aload_n 0, 1, 0, 0, 0), some (.getfield 21, 3, 3, 2, 168), none, none],
  [some (.invokevirtual 261, 3, 15, 508, 0), none, none, some (.iconst 1, 1, 0, 0, 0), some (.isub, 1, 0, 0, 0), some (.invokevirtual 270, 3, 16, 520, 0), none, none, some (.ireturn, 1, 0, 0, 0), some (.aload_n 0, 1, 0, 0, 0), some (.getfield 21, 3, 3, 2, 168), none, none, some (.iconst 1, 1, 0, 0, 0), some (.invokevirtual 290, 3, 14, 603, 0), none],
  [none, some (.ireturn, 1, 0, 0, 0), some (.aload_n 0, 1, 0, 0, 0), some (.getfield 21, 3, 3, 2, 168), none, none, some (.iconst 2, 1, 0, 0, 0), some (.invokevirtual 290, 3, 14, 603, 0), none, none, some (.ireturn, 1, 0, 0, 0), some (.aload_n 0, 1, 0, 0, 0), some (.getfield 11, 3, 3, 0, 166), none, none, some (.invokestatic 293, 3, 92, 608, 0)]]
noncomputable def tb_74_2 : List (List (Option INS)) := [[none, none, some (.ireturn, 1, 0, 0, 0), some (.aload_n 0, 1, 0, 0, 0), some (.getfield 15, 3, 3, 1, 167), none, none, some (.invokestatic 293, 3, 92, 608, 0), none, none, some (.ireturn, 1, 0, 0, 0), some (.aload_n 0, 1, 0, 0, 0), some (.invokevirtual 297, 3, 93, 611, 0), none, none, some (.ireturn, 1, 0, 0, 0)],
  [some (.iconst (-1), 1, 0, 0, 0), some (.ireturn, 1, 0, 0, 0)]]
noncomputable def tb_74 : List (List (Option INS)) := tb_74_0 ++ (tb_74_1 ++ (tb_74_2))
noncomputable def tb_75 : List (List (Option INS)) := [[some (.aload_n 0, 1, 0, 0, 0), some (.getfield 33, 3, 3, 5, 171), none, none, some (.ireturn, 1, 0, 0, 0)]]
noncomputable def tb_76 : List (List (Option INS)) := [[some (.iload_n 1, 1, 0, 0, 0), some (.iconst 1, 1, 0, 0, 0), some (.if_icmp .lt 8, 3, 0, 0, 0), none, none, some (.iload_n 1, 1, 0, 0, 0), some (.iconst 5, 1, 0, 0, 0), some (.if_icmp .le 5, 3, 0, 0, 0), none, none, some (.iconst (-1), 1, 0, 0, 0), some (.ireturn, 1, 0, 0, 0), some (.aload_n 0, 1, 0, 0, 0), some (.getfield 29, 3, 3, 4, 170), none, none],
  [some (.iload_n 1, 1, 0, 0, 0), some (.iaload, 1, 0, 0, 0), some (.ireturn, 1, 0, 0, 0)]]
noncomputable def tb_77_0 : List (List (Option INS)) := [[some (.ldc2_w 300, 3, 627, 0, 17), none, none, some (.lstore_n 1, 1, 0, 0, 0), some (.iconst 0, 1, 0, 0, 0), some (.istore_n 3, 1, 0, 0, 0), some (.iload_n 3, 1, 0, 0, 0), some (.bipush 9, 2, 0, 0, 0), none, some (.if_icmp .gt 22, 3, 0, 0, 0), none, none, some (.ldc2_w 302, 3, 628, 0, 31), none, none, some (.lload_n 1, 1, 0, 0, 0)],
  [some (.lmul, 1, 0, 0, 0), some (.aload_n 0, 1, 0, 0, 0), some (.iload_n 3, 1, 0, 0, 0), some (.invokevirtual 304, 3, 74, 629, 0), none, none, some (.i2l, 1, 0, 0, 0), some (.ladd, 1, 0, 0, 0), some (.lstore_n 1, 1, 0, 0, 0), some (.iinc 3 1, 3, 0, 0, 0), none, none, some (.goto (-22), 3, 0, 0, 0), none, none, some (.iconst 0, 1, 0, 0, 0)],
  [some (.istore_n 3, 1, 0, 0, 0), some (.iload_n 3, 1, 0, 0, 0), some (.aload_n 0, 1, 0, 0, 0), some (.getfield 21, 3, 3, 2, 168), none, none, some (.getfield 116, 3, 0, 7, 90), none, none, some (.if_icmp .ge 40, 3, 0, 0, 0), none, none, some (.iconst 0, 1, 0, 0, 0), some (.istore 4, 2, 0, 0, 0), none, some (.iload 4, 2, 0, 0, 0)],
  [none, some (.bipush 6, 2, 0, 0, 0), none, some (.if_icmp .gt 24, 3, 0, 0, 0), none, none, some (.ldc2_w 302, 3, 628, 0, 31), none, none, some (.lload_n 1, 1, 0, 0, 0), some (.lmul, 1, 0, 0, 0), some (.aload_n 0, 1, 0, 0, 0), some (.iload_n 3, 1, 0, 0, 0), some (.iload 4, 2, 0, 0, 0), none, some (.invokevirtual 120, 3, 91, 308, 0)]]
noncomputable def tb_77_1 : List (List (Option INS)) := [[none, none, some (.i2l, 1, 0, 0, 0), some (.ladd, 1, 0, 0, 0), some (.lstore_n 1, 1, 0, 0, 0), some (.iinc 4 1, 3, 0, 0, 0), none, none, some (.goto (-25), 3, 0, 0, 0), none, none, some (.iinc 3 1, 3, 0, 0, 0), none, none, some (.goto (-45), 3, 0, 0, 0), none],
  [none, some (.aload_n 0, 1, 0, 0, 0), some (.getfield 25, 3, 3, 3, 169), none, none, some (.astore_n 3, 1, 0, 0, 0), some (.aload_n 3, 1, 0, 0, 0), some (.arraylength, 1, 0, 0, 0), some (.istore 4, 2, 0, 0, 0), none, some (.iconst 0, 1, 0, 0, 0), some (.istore 5, 2, 0, 0, 0), none, some (.iload 5, 2, 0, 0, 0), none, some (.iload 4, 2, 0, 0, 0)],
  [none, some (.if_icmp .ge 40, 3, 0, 0, 0), none, none, some (.aload_n 3, 1, 0, 0, 0), some (.iload 5, 2, 0, 0, 0), none, some (.aaload, 1, 0, 0, 0), some (.astore 6, 2, 0, 0, 0), none, some (.ldc2_w 302, 3, 628, 0, 31), none, none, some (.lload_n 1, 1, 0, 0, 0), some (.lmul, 1, 0, 0, 0), some (.aload 6, 2, 0, 0, 0)],
  [none, some (.invokevirtual 183, 3, 2, 409, 0), none, none, some (.ifCond .eq 7, 3, 0, 0, 0), none, none, some (.iconst (-1), 1, 0, 0, 0), some (.goto 8, 3, 0, 0, 0), none, none, some (.aload 6, 2, 0, 0, 0), none, some (.getfield 174, 3, 0, 9, 94), none, none]]
noncomputable def tb_77_2 : List (List (Option INS)) := [[some (.i2l, 1, 0, 0, 0), some (.ladd, 1, 0, 0, 0), some (.lstore_n 1, 1, 0, 0, 0), some (.iinc 5 1, 3, 0, 0, 0), none, none, some (.goto (-41), 3, 0, 0, 0), none, none, some (.aload_n 0, 1, 0, 0, 0), some (.getfield 11, 3, 3, 0, 166), none, none, some (.astore_n 3, 1, 0, 0, 0), some (.aload_n 3, 1, 0, 0, 0), some (.arraylength, 1, 0, 0, 0)],
  [some (.istore 4, 2, 0, 0, 0), none, some (.iconst 0, 1, 0, 0, 0), some (.istore 5, 2, 0, 0, 0), none, some (.iload 5, 2, 0, 0, 0), none, some (.iload 4, 2, 0, 0, 0), none, some (.if_icmp .ge 22, 3, 0, 0, 0), none, none, some (.aload_n 3, 1, 0, 0, 0), some (.iload 5, 2, 0, 0, 0), none, some (.aaload, 1, 0, 0, 0)],
  [some (.astore 6, 2, 0, 0, 0), none, some (.aload 6, 2, 0, 0, 0), none, some (.lload_n 1, 1, 0, 0, 0), some (.invokevirtual 307, 3, 36, 630, 0), none, none, some (.lstore_n 1, 1, 0, 0, 0), some (.iinc 5 1, 3, 0, 0, 0), none, none, some (.goto (-23), 3, 0, 0, 0), none, none, some (.aload_n 0, 1, 0, 0, 0)],
  [some (.getfield 15, 3, 3, 1, 167), none, none, some (.astore_n 3, 1, 0, 0, 0), some (.aload_n 3, 1, 0, 0, 0), some (.arraylength, 1, 0, 0, 0), some (.istore 4, 2, 0, 0, 0), none, some (.iconst 0, 1, 0, 0, 0), some (.istore 5, 2, 0, 0, 0), none, some (.iload 5, 2, 0, 0, 0), none, some (.iload 4, 2, 0, 0, 0), none, some (.if_icmp .ge 22, 3, 0, 0, 0)]]
noncomputable def tb_77_3 : List (List (Option INS)) := [[none, none, some (.aload_n 3, 1, 0, 0, 0), some (.iload 5, 2, 0, 0, 0), none, some (.aaload, 1, 0, 0, 0), some (.astore 6, 2, 0, 0, 0), none, some (.aload 6, 2, 0, 0, 0), none, some (.lload_n 1, 1, 0, 0, 0), some (.invokevirtual 307, 3, 36, 630, 0), none, none, some (.lstore_n 1, 1, 0, 0, 0), some (.iinc 5 1, 3, 0, 0, 0)],
  [none, none, some (.goto (-23), 3, 0, 0, 0), none, none, some (.lload_n 1, 1, 0, 0, 0), some (.lreturn, 1, 0, 0, 0)]]
noncomputable def tb_77 : List (List (Option INS)) := tb_77_0 ++ (tb_77_1 ++ (tb_77_2 ++ (tb_77_3)))
noncomputable def tb_78 : List (List (Option INS)) := [[some (.iload_n 0, 1, 0, 0, 0), some (.ifCond .lt 13, 3, 0, 0, 0), none, none, some (.iload_n 0, 1, 0, 0, 0), some (.bipush 6, 2, 0, 0, 0), none, some (.if_icmp .ge 7, 3, 0, 0, 0), none, none, some (.iconst 1, 1, 0, 0, 0), some (.goto 4, 3, 0, 0, 0), none, none, some (.iconst 0, 1, 0, 0, 0), some (.ireturn, 1, 1, 0, 0)]]
noncomputable def tb_79 : List (List (Option INS)) := [[some (.iload_n 0, 1, 0, 0, 0), some (.ifCond .lt 12, 3, 0, 0, 0), none, none, some (.iload_n 0, 1, 0, 0, 0), some (.iconst 4, 1, 0, 0, 0), some (.if_icmp .ge 7, 3, 0, 0, 0), none, none, some (.iconst 1, 1, 0, 0, 0), some (.goto 4, 3, 0, 0, 0), none, none, some (.iconst 0, 1, 0, 0, 0), some (.ireturn, 1, 1, 0, 0)]]
noncomputable def tb_80 : List (List (Option INS)) := [[some (.iload_n 0, 1, 0, 0, 0), some (.ifCond .lt 12, 3, 0, 0, 0), none, none, some (.iload_n 0, 1, 0, 0, 0), some (.iconst 3, 1, 0, 0, 0), some (.if_icmp .ge 7, 3, 0, 0, 0), none, none, some (.iconst 1, 1, 0, 0, 0), some (.goto 4, 3, 0, 0, 0), none, none, some (.iconst 0, 1, 0, 0, 0), some (.ireturn, 1, 1, 0, 0)]]
noncomputable def tb_81 : List (List (Option INS)) := [[some (.iload_n 0, 1, 0, 0, 0), some (.ifCond .lt 13, 3, 0, 0, 0), none, none, some (.iload_n 0, 1, 0, 0, 0), some (.bipush 7, 2, 0, 0, 0), none, some (.if_icmp .ge 7, 3, 0, 0, 0), none, none, some (.iconst 1, 1, 0, 0, 0), some (.goto 4, 3, 0, 0, 0), none, none, some (.iconst 0, 1, 0, 0, 0), some (.ireturn, 1, 1, 0, 0)]]
noncomputable def tb_82 : List (List (Option INS)) := [[some (.iload_n 1, 1, 0, 0, 0), some (.ifCond .lt 18, 3, 0, 0, 0), none, none, some (.iload_n 1, 1, 0, 0, 0), some (.aload_n 0, 1, 0, 0, 0), some (.getfield 21, 3, 3, 2, 168), none, none, some (.getfield 116, 3, 0, 7, 90), none, none, some (.if_icmp .ge 7, 3, 0, 0, 0), none, none, some (.iconst 1, 1, 0, 0, 0)],
  [some (.goto 4, 3, 0, 0, 0), none, none, some (.iconst 0, 1, 0, 0, 0), some (.ireturn, 1, 1, 0, 0)]]
noncomputable def tb_83 : List (List (Option INS)) := [[some (.aload_n 0, 1, 0, 0, 0), some (.iload_n 1, 1, 0, 0, 0), some (.putfield 33, 3, 3, 5, 171), none, none, some (.aload_n 0, 1, 0, 0, 0), some (.getfield 29, 3, 3, 4, 170), none, none, some (.iload_n 1, 1, 0, 0, 0), some (.dup2, 1, 0, 0, 0), some (.iaload, 1, 0, 0, 0), some (.iconst 1, 1, 0, 0, 0), some (.iadd, 1, 0, 0, 0), some (.iastore, 1, 0, 0, 0), some (.bipush (-3), 2, 0, 0, 0)],
  [none, some (.ireturn, 1, 0, 0, 0)]]
noncomputable def tb_84 : List (List (Option INS)) := [[some (.aload_n 1, 1, 0, 0, 0), some (.invokevirtual 85, 3, 33, 229, 0), none, none, some (.ifCond .eq 9, 3, 0, 0, 0), none, none, some (.aload_n 0, 1, 0, 0, 0), some (.iconst 1, 1, 0, 0, 0), some (.invokevirtual 70, 3, 83, 213, 0), none, none, some (.ireturn, 1, 0, 0, 0), some (.aload_n 1, 1, 0, 0, 0), some (.iload_n 2, 1, 0, 0, 0), some (.iconst 1, 1, 0, 0, 0)],
  [some (.invokevirtual 92, 3, 34, 233, 0), none, none, some (.ifCond .ne 9, 3, 0, 0, 0), none, none, some (.aload_n 0, 1, 0, 0, 0), some (.iconst 2, 1, 0, 0, 0), some (.invokevirtual 70, 3, 83, 213, 0), none, none, some (.ireturn, 1, 0, 0, 0), some (.iconst 0, 1, 0, 0, 0), some (.ireturn, 1, 0, 0, 0)]]
noncomputable def tb_85_0 : List (List (Option INS)) := [[some (.aload_n 1, 1, 0, 0, 0), some (.invokevirtual 85, 3, 33, 229, 0), none, none, some (.ifCond .eq 9, 3, 0, 0, 0), none, none, some (.aload_n 0, 1, 0, 0, 0), some (.iconst 1, 1, 0, 0, 0), some (.invokevirtual 70, 3, 83, 213, 0), none, none, some (.ireturn, 1, 0, 0, 0), some (.aload_n 1, 1, 0, 0, 0), some (.getfield 89, 3, 1, 1, 160), none],
  [none, some (.iload_n 2, 1, 0, 0, 0), some (.if_icmp .lt 11, 3, 0, 0, 0), none, none, some (.aload_n 1, 1, 0, 0, 0), some (.getfield 89, 3, 1, 1, 160), none, none, some (.iload_n 3, 1, 0, 0, 0), some (.if_icmp .le 9, 3, 0, 0, 0), none, none, some (.aload_n 0, 1, 0, 0, 0), some (.iconst 5, 1, 0, 0, 0), some (.invokevirtual 70, 3, 83, 213, 0)],
  [none, none, some (.ireturn, 1, 0, 0, 0), some (.iconst 0, 1, 0, 0, 0), some (.istore 6, 2, 0, 0, 0), none, some (.iload 6, 2, 0, 0, 0), none, some (.aload_n 1, 1, 0, 0, 0), some (.getfield 89, 3, 1, 1, 160), none, none, some (.if_icmp .ge 39, 3, 0, 0, 0), none, none, some (.aload_n 1, 1, 0, 0, 0)],
  [some (.getfield 82, 3, 1, 0, 158), none, none, some (.iload 6, 2, 0, 0, 0), none, some (.iaload, 1, 0, 0, 0), some (.iload 4, 2, 0, 0, 0), none, some (.if_icmp .lt 15, 3, 0, 0, 0), none, none, some (.aload_n 1, 1, 0, 0, 0), some (.getfield 82, 3, 1, 0, 158), none, none, some (.iload 6, 2, 0, 0, 0)]]
noncomputable def tb_85_1 : List (List (Option INS)) := [[none, some (.iaload, 1, 0, 0, 0), some (.iload 5, 2, 0, 0, 0), none, some (.if_icmp .le 9, 3, 0, 0, 0), none, none, some (.aload_n 0, 1, 0, 0, 0), some (.iconst 3, 1, 0, 0, 0), some (.invokevirtual 70, 3, 83, 213, 0), none, none, some (.ireturn, 1, 0, 0, 0), some (.iinc 6 1, 3, 0, 0, 0), none, none],
  [some (.goto (-42), 3, 0, 0, 0), none, none, some (.iconst 0, 1, 0, 0, 0), some (.ireturn, 1, 0, 0, 0)]]
noncomputable def tb_85 : List (List (Option INS)) := tb_85_0 ++ (tb_85_1)
noncomputable def tb_86_0 : List (List (Option INS)) := [[some (.aload_n 1, 1, 0, 0, 0), some (.invokevirtual 85, 3, 33, 229, 0), none, none, some (.ifCond .eq 9, 3, 0, 0, 0), none, none, some (.aload_n 0, 1, 0, 0, 0), some (.iconst 1, 1, 0, 0, 0), some (.invokevirtual 70, 3, 83, 213, 0), none, none, some (.ireturn, 1, 0, 0, 0), some (.aload_n 1, 1, 0, 0, 0), some (.getfield 89, 3, 1, 1, 160), none],
  [none, some (.bipush 16, 2, 0, 0, 0), none, some (.if_icmp .gt 12, 3, 0, 0, 0), none, none, some (.aload_n 1, 1, 0, 0, 0), some (.getfield 89, 3, 1, 1, 160), none, none, some (.iconst 2, 1, 0, 0, 0), some (.irem, 1, 0, 0, 0), some (.ifCond .eq 9, 3, 0, 0, 0), none, none, some (.aload_n 0, 1, 0, 0, 0)],
  [some (.iconst 5, 1, 0, 0, 0), some (.invokevirtual 70, 3, 83, 213, 0), none, none, some (.ireturn, 1, 0, 0, 0), some (.iconst 0, 1, 0, 0, 0), some (.istore_n 2, 1, 0, 0, 0), some (.iload_n 2, 1, 0, 0, 0), some (.aload_n 1, 1, 0, 0, 0), some (.getfield 89, 3, 1, 1, 160), none, none, some (.if_icmp .ge 48, 3, 0, 0, 0), none, none, some (.iload_n 2, 1, 0, 0, 0)],
  [some (.iconst 2, 1, 0, 0, 0), some (.irem, 1, 0, 0, 0), some (.ifCond .ne 8, 3, 0, 0, 0), none, none, some (.bipush 6, 2, 0, 0, 0), none, some (.goto 5, 3, 0, 0, 0), none, none, some (.bipush 27, 2, 0, 0, 0), none, some (.istore_n 3, 1, 0, 0, 0), some (.aload_n 1, 1, 0, 0, 0), some (.getfield 82, 3, 1, 0, 158), none]]
noncomputable def tb_86_1 : List (List (Option INS)) := [[none, some (.iload_n 2, 1, 0, 0, 0), some (.iaload, 1, 0, 0, 0), some (.ifCond .lt 13, 3, 0, 0, 0), none, none, some (.aload_n 1, 1, 0, 0, 0), some (.getfield 82, 3, 1, 0, 158), none, none, some (.iload_n 2, 1, 0, 0, 0), some (.iaload, 1, 0, 0, 0), some (.iload_n 3, 1, 0, 0, 0), some (.if_icmp .le 9, 3, 0, 0, 0), none, none],
  [some (.aload_n 0, 1, 0, 0, 0), some (.iconst 3, 1, 0, 0, 0), some (.invokevirtual 70, 3, 83, 213, 0), none, none, some (.ireturn, 1, 0, 0, 0), some (.iinc 2 1, 3, 0, 0, 0), none, none, some (.goto (-50), 3, 0, 0, 0), none, none, some (.iconst 0, 1, 0, 0, 0), some (.ireturn, 1, 0, 0, 0)]]
noncomputable def tb_86 : List (List (Option INS)) := tb_86_0 ++ (tb_86_1)
noncomputable def tb_87_0 : List (List (Option INS)) := [[some (.iconst 0, 1, 0, 0, 0), some (.istore_n 1, 1, 0, 0, 0), some (.iconst 0, 1, 0, 0, 0), some (.istore_n 2, 1, 0, 0, 0), some (.iconst 0, 1, 0, 0, 0), some (.istore_n 3, 1, 0, 0, 0), some (.iload_n 3, 1, 0, 0, 0), some (.aload_n 0, 1, 0, 0, 0), some (.getfield 89, 3, 1, 1, 160), none, none, some (.if_icmp .ge 61, 3, 0, 0, 0), none, none, some (.aload_n 0, 1, 0, 0, 0), some (.getfield 82, 3, 1, 0, 158)],
  [none, none, some (.iload_n 3, 1, 0, 0, 0), some (.iaload, 1, 0, 0, 0), some (.istore 4, 2, 0, 0, 0), none, some (.iload_n 2, 1, 0, 0, 0), some (.ifCond .ne 13, 3, 0, 0, 0), none, none, some (.iload 4, 2, 0, 0, 0), none, some (.bipush 32, 2, 0, 0, 0), none, some (.if_icmp .ne 6, 3, 0, 0, 0), none],
  [none, some (.goto 33, 3, 0, 0, 0), none, none, some (.iload_n 1, 1, 0, 0, 0), some (.bipush 6, 2, 0, 0, 0), none, some (.if_icmp .eq 12, 3, 0, 0, 0), none, none, some (.iload_n 2, 1, 0, 0, 0), some (.iload 4, 2, 0, 0, 0), none, some (.invokestatic 311, 3, 88, 274, 0), none, none],
  [some (.ifCond .ne 5, 3, 0, 0, 0), none, none, some (.iload_n 3, 1, 0, 0, 0), some (.ireturn, 1, 0, 0, 0), some (.iinc 2 1, 3, 0, 0, 0), none, none, some (.iload_n 2, 1, 0, 0, 0), some (.iconst 5, 1, 0, 0, 0), some (.if_icmp .ne 8, 3, 0, 0, 0), none, none, some (.iconst 0, 1, 0, 0, 0), some (.istore_n 2, 1, 0, 0, 0), some (.iinc 1 1, 3, 0, 0, 0)]]
noncomputable def tb_87_1 : List (List (Option INS)) := [[none, none, some (.iinc 3 1, 3, 0, 0, 0), none, none, some (.goto (-63), 3, 0, 0, 0), none, none, some (.iload_n 2, 1, 0, 0, 0), some (.ifCond .gt 7, 3, 0, 0, 0), none, none, some (.iload_n 1, 1, 0, 0, 0), some (.ifCond .ne 10, 3, 0, 0, 0), none, none],
  [some (.aload_n 0, 1, 0, 0, 0), some (.getfield 89, 3, 1, 1, 160), none, none, some (.goto 5, 3, 0, 0, 0), none, none, some (.bipush (-9), 2, 0, 0, 0), none, some (.ireturn, 1, 0, 0, 0)]]
noncomputable def tb_87 : List (List (Option INS)) := tb_87_0 ++ (tb_87_1)
noncomputable def tb_88 : List (List (Option INS)) := [[some (.iload_n 0, 1, 0, 0, 0), some (.ifCond .ne 18, 3, 0, 0, 0), none, none, some (.iload_n 1, 1, 0, 0, 0), some (.invokestatic 314, 3, 18, 277, 0), none, none, some (.bipush (-9), 2, 0, 0, 0), none, some (.if_icmp .eq 7, 3, 0, 0, 0), none, none, some (.iconst 1, 1, 0, 0, 0), some (.goto 4, 3, 0, 0, 0), none],
  [none, some (.iconst 0, 1, 0, 0, 0), some (.ireturn, 1, 1, 0, 0), some (.iload_n 1, 1, 0, 0, 0), some (.bipush 48, 2, 0, 0, 0), none, some (.if_icmp .lt 23, 3, 0, 0, 0), none, none, some (.iload_n 1, 1, 0, 0, 0), some (.iload_n 0, 1, 0, 0, 0), some (.iconst 4, 1, 0, 0, 0), some (.if_icmp .ne 8, 3, 0, 0, 0), none, none, some (.bipush 49, 2, 0, 0, 0)],
  [none, some (.goto 5, 3, 0, 0, 0), none, none, some (.bipush 57, 2, 0, 0, 0), none, some (.if_icmp .gt 7, 3, 0, 0, 0), none, none, some (.iconst 1, 1, 0, 0, 0), some (.goto 4, 3, 0, 0, 0), none, none, some (.iconst 0, 1, 0, 0, 0), some (.ireturn, 1, 1, 0, 0)]]
noncomputable def tb_89 : List (List (Option INS)) := [[some (.aload_n 0, 1, 0, 0, 0), some (.getfield 21, 3, 3, 2, 168), none, none, some (.invokevirtual 113, 3, 3, 288, 0), none, none, some (.iconst 0, 1, 0, 0, 0), some (.istore_n 2, 1, 0, 0, 0), some (.iload_n 2, 1, 0, 0, 0), some (.iconst 5, 1, 0, 0, 0), some (.iadd, 1, 0, 0, 0), some (.aload_n 1, 1, 0, 0, 0), some (.getfield 89, 3, 1, 1, 160), none, none],
  [some (.if_icmp .gt 32, 3, 0, 0, 0), none, none, some (.aload_n 1, 1, 0, 0, 0), some (.getfield 82, 3, 1, 0, 158), none, none, some (.iload_n 2, 1, 0, 0, 0), some (.iaload, 1, 0, 0, 0), some (.bipush 32, 2, 0, 0, 0), none, some (.if_icmp .ne 9, 3, 0, 0, 0), none, none, some (.iinc 2 1, 3, 0, 0, 0), none],
  [none, some (.goto (-24), 3, 0, 0, 0), none, none, some (.aload_n 0, 1, 0, 0, 0), some (.aload_n 1, 1, 0, 0, 0), some (.iload_n 2, 1, 0, 0, 0), some (.invokevirtual 317, 3, 90, 292, 0), none, none, some (.iinc 2 5, 3, 0, 0, 0), none, none, some (.goto (-36), 3, 0, 0, 0), none, none],
  [some (.return_, 1, 0, 0, 0)]]
noncomputable def tb_90_0 : List (List (Option INS)) := [[some (.iconst 0, 1, 0, 0, 0), some (.istore_n 3, 1, 0, 0, 0), some (.iconst 1, 1, 0, 0, 0), some (.istore 4, 2, 0, 0, 0), none, some (.iload 4, 2, 0, 0, 0), none, some (.iconst 3, 1, 0, 0, 0), some (.if_icmp .gt 27, 3, 0, 0, 0), none, none, some (.bipush 10, 2, 0, 0, 0), none, some (.iload_n 3, 1, 0, 0, 0), some (.imul, 1, 0, 0, 0), some (.aload_n 1, 1, 0, 0, 0)],
  [some (.getfield 82, 3, 1, 0, 158), none, none, some (.iload_n 2, 1, 0, 0, 0), some (.iload 4, 2, 0, 0, 0), none, some (.iadd, 1, 0, 0, 0), some (.iaload, 1, 0, 0, 0), some (.iadd, 1, 0, 0, 0), some (.bipush 48, 2, 0, 0, 0), none, some (.isub, 1, 0, 0, 0), some (.istore_n 3, 1, 0, 0, 0), some (.iinc 4 1, 3, 0, 0, 0), none, none],
  [some (.goto (-27), 3, 0, 0, 0), none, none, some (.aload_n 0, 1, 0, 0, 0), some (.getfield 21, 3, 3, 2, 168), none, none, some (.aload_n 1, 1, 0, 0, 0), some (.getfield 82, 3, 1, 0, 158), none, none, some (.iload_n 2, 1, 0, 0, 0), some (.iaload, 1, 0, 0, 0), some (.invokestatic 314, 3, 18, 277, 0), none, none],
  [some (.iload_n 3, 1, 0, 0, 0), some (.aload_n 1, 1, 0, 0, 0), some (.getfield 82, 3, 1, 0, 158), none, none, some (.iload_n 2, 1, 0, 0, 0), some (.iconst 5, 1, 0, 0, 0), some (.iadd, 1, 0, 0, 0), some (.iconst 1, 1, 0, 0, 0), some (.isub, 1, 0, 0, 0), some (.iaload, 1, 0, 0, 0), some (.bipush 48, 2, 0, 0, 0), none, some (.isub, 1, 0, 0, 0), some (.invokevirtual 321, 3, 4, 296, 0), none]]
noncomputable def tb_90_1 : List (List (Option INS)) := [[none, some (.return_, 1, 0, 0, 0)]]
noncomputable def tb_90 : List (List (Option INS)) := tb_90_0 ++ (tb_90_1)
noncomputable def tb_91_0 : List (List (Option INS)) := [[some (.aload_n 0, 1, 0, 0, 0), some (.getfield 21, 3, 3, 2, 168), none, none, some (.getfield 126, 3, 0, 0, 80), none, none, some (.iload_n 1, 1, 0, 0, 0), some (.iaload, 1, 0, 0, 0), some (.istore_n 3, 1, 0, 0, 0), some (.aload_n 0, 1, 0, 0, 0), some (.getfield 21, 3, 3, 2, 168), none, none, some (.getfield 138, 3, 0, 1, 82), none],
  [none, some (.iload_n 1, 1, 0, 0, 0), some (.iaload, 1, 0, 0, 0), some (.istore 4, 2, 0, 0, 0), none, some (.iload_n 2, 1, 0, 0, 0), some (.tableswitch 75 0 6 #[42, 75, 75, 75, 44, 54, 61], 42, 0, 0, 0), none, none, none, none, none, none, none, none, none],
  [none, none, none, none, none, none, none, none, none, none, none, none, none, none, none, none],
  [none, none, none, none, none, none, none, none, none, none, none, none, none, none, none, none]]
noncomputable def tb_91_1 : List (List (Option INS)) := [[some (.iload_n 3, 1, 0, 0, 0), some (.ireturn, 1, 0, 0, 0), some (.aload_n 0, 1, 0, 0, 0), some (.getfield 21, 3, 3, 2, 168), none, none, some (.getfield 218, 3, 0, 2, 84), none, none, some (.iload_n 1, 1, 0, 0, 0), some (.iaload, 1, 0, 0, 0), some (.ireturn, 1, 0, 0, 0), some (.iload_n 3, 1, 0, 0, 0), some (.iload 4, 2, 0, 0, 0), none, some (.invokestatic 324, 3, 26, 312, 0)],
  [none, none, some (.ireturn, 1, 0, 0, 0), some (.iload_n 3, 1, 0, 0, 0), some (.iload 4, 2, 0, 0, 0), none, some (.aload_n 0, 1, 0, 0, 0), some (.getfield 21, 3, 3, 2, 168), none, none, some (.getfield 132, 3, 0, 8, 92), none, none, some (.invokestatic 141, 3, 25, 321, 0), none, none],
  [some (.ireturn, 1, 0, 0, 0), some (.iload 4, 2, 0, 0, 0), none, some (.iload_n 2, 1, 0, 0, 0), some (.iconst 1, 1, 0, 0, 0), some (.isub, 1, 0, 0, 0), some (.invokestatic 167, 3, 28, 343, 0), none, none, some (.ireturn, 1, 0, 0, 0)]]
noncomputable def tb_91 : List (List (Option INS)) := tb_91_0 ++ (tb_91_1)
noncomputable def tb_92 : List (List (Option INS)) := [[some (.iconst 0, 1, 0, 0, 0), some (.istore_n 1, 1, 0, 0, 0), some (.aload_n 0, 1, 0, 0, 0), some (.astore_n 2, 1, 0, 0, 0), some (.aload_n 2, 1, 0, 0, 0), some (.arraylength, 1, 0, 0, 0), some (.istore_n 3, 1, 0, 0, 0), some (.iconst 0, 1, 0, 0, 0), some (.istore 4, 2, 0, 0, 0), none, some (.iload 4, 2, 0, 0, 0), none, some (.iload_n 3, 1, 0, 0, 0), some (.if_icmp .ge 31, 3, 0, 0, 0), none, none],
  [some (.aload_n 2, 1, 0, 0, 0), some (.iload 4, 2, 0, 0, 0), none, some (.aaload, 1, 0, 0, 0), some (.astore 5, 2, 0, 0, 0), none, some (.iload_n 1, 1, 0, 0, 0), some (.aload 5, 2, 0, 0, 0), none, some (.invokevirtual 85, 3, 33, 229, 0), none, none, some (.ifCond .eq 7, 3, 0, 0, 0), none, none, some (.iconst 0, 1, 0, 0, 0)],
  [some (.goto 4, 3, 0, 0, 0), none, none, some (.iconst 1, 1, 0, 0, 0), some (.iadd, 1, 0, 0, 0), some (.istore_n 1, 1, 0, 0, 0), some (.iinc 4 1, 3, 0, 0, 0), none, none, some (.goto (-31), 3, 0, 0, 0), none, none, some (.iload_n 1, 1, 0, 0, 0), some (.ireturn, 1, 0, 0, 0)]]
noncomputable def tb_93 : List (List (Option INS)) := [[some (.iconst 0, 1, 0, 0, 0), some (.istore_n 1, 1, 0, 0, 0), some (.aload_n 0, 1, 0, 0, 0), some (.getfield 25, 3, 3, 3, 169), none, none, some (.astore_n 2, 1, 0, 0, 0), some (.aload_n 2, 1, 0, 0, 0), some (.arraylength, 1, 0, 0, 0), some (.istore_n 3, 1, 0, 0, 0), some (.iconst 0, 1, 0, 0, 0), some (.istore 4, 2, 0, 0, 0), none, some (.iload 4, 2, 0, 0, 0), none, some (.iload_n 3, 1, 0, 0, 0)],
  [some (.if_icmp .ge 31, 3, 0, 0, 0), none, none, some (.aload_n 2, 1, 0, 0, 0), some (.iload 4, 2, 0, 0, 0), none, some (.aaload, 1, 0, 0, 0), some (.astore 5, 2, 0, 0, 0), none, some (.iload_n 1, 1, 0, 0, 0), some (.aload 5, 2, 0, 0, 0), none, some (.invokevirtual 183, 3, 2, 409, 0), none, none, some (.ifCond .eq 7, 3, 0, 0, 0)],
  [none, none, some (.iconst 0, 1, 0, 0, 0), some (.goto 4, 3, 0, 0, 0), none, none, some (.iconst 1, 1, 0, 0, 0), some (.iadd, 1, 0, 0, 0), some (.istore_n 1, 1, 0, 0, 0), some (.iinc 4 1, 3, 0, 0, 0), none, none, some (.goto (-31), 3, 0, 0, 0), none, none, some (.iload_n 1, 1, 0, 0, 0)],
  [some (.ireturn, 1, 0, 0, 0)]]
noncomputable def tb_94 : List (List (Option INS)) := [[some (.lload_n 1, 1, 0, 0, 0), some (.lload_n 3, 1, 0, 0, 0), some (.invokestatic 327, 3, 95, 465, 0), none, none, some (.lstore 5, 2, 0, 0, 0), none, some (.lload 5, 2, 0, 0, 0), none, some (.lconst 0, 1, 0, 0, 0), some (.lcmp, 1, 0, 0, 0), some (.ifCond .le 19, 3, 0, 0, 0), none, none, some (.aload_n 0, 1, 0, 0, 0), some (.lload_n 1, 1, 0, 0, 0)],
  [some (.lload 5, 2, 0, 0, 0), none, some (.ldiv, 1, 0, 0, 0), some (.putfield 40, 3, 3, 7, 173), none, none, some (.aload_n 0, 1, 0, 0, 0), some (.lload_n 3, 1, 0, 0, 0), some (.lload 5, 2, 0, 0, 0), none, some (.ldiv, 1, 0, 0, 0), some (.putfield 44, 3, 3, 8, 174), none, none, some (.return_, 1, 0, 0, 0)]]
noncomputable def tb_95 : List (List (Option INS)) := [[some (.iconst 0, 1, 0, 0, 0), some (.istore 4, 2, 0, 0, 0), none, some (.iload 4, 2, 0, 0, 0), none, some (.bipush 100, 2, 0, 0, 0), none, some (.if_icmp .ge 25, 3, 0, 0, 0), none, none, some (.lload_n 2, 1, 0, 0, 0), some (.lconst 0, 1, 0, 0, 0), some (.lcmp, 1, 0, 0, 0), some (.ifCond .eq 19, 3, 0, 0, 0), none, none],
  [some (.lload_n 0, 1, 0, 0, 0), some (.lload_n 2, 1, 0, 0, 0), some (.lrem, 1, 0, 0, 0), some (.lstore 5, 2, 0, 0, 0), none, some (.lload_n 2, 1, 0, 0, 0), some (.lstore_n 0, 1, 0, 0, 0), some (.lload 5, 2, 0, 0, 0), none, some (.lstore_n 2, 1, 0, 0, 0), some (.iinc 4 1, 3, 0, 0, 0), none, none, some (.goto (-26), 3, 0, 0, 0), none, none],
  [some (.lload_n 0, 1, 0, 0, 0), some (.lreturn, 1, 0, 0, 0)]]
noncomputable def tb_96_0 : List (List (Option INS)) := [[some (.iload_n 1, 1, 0, 0, 0), some (.aload_n 0, 1, 0, 0, 0), some (.getfield 215, 3, 2, 4, 133), none, none, some (.if_icmp .ge 12, 3, 0, 0, 0), none, none, some (.iload_n 1, 1, 0, 0, 0), some (.aload_n 0, 1, 0, 0, 0), some (.getfield 224, 3, 2, 0, 125), none, none, some (.arraylength, 1, 0, 0, 0), some (.if_icmp .lt 36, 3, 0, 0, 0), none],
  [none, some (.aload_n 0, 1, 0, 0, 0), some (.getfield 212, 3, 2, 5, 135), none, none, some (.iconst (-1), 1, 0, 0, 0), some (.if_icmp .eq 11, 3, 0, 0, 0), none, none, some (.aload_n 0, 1, 0, 0, 0), some (.getfield 212, 3, 2, 5, 135), none, none, some (.iload_n 3, 1, 0, 0, 0), some (.if_icmp .ne 18, 3, 0, 0, 0), none],
  [none, some (.iload_n 2, 1, 0, 0, 0), some (.aload_n 0, 1, 0, 0, 0), some (.getfield 209, 3, 2, 1, 127), none, none, some (.invokestatic 243, 3, 31, 444, 0), none, none, some (.ifCond .eq 7, 3, 0, 0, 0), none, none, some (.iconst 1, 1, 0, 0, 0), some (.goto 4, 3, 0, 0, 0), none, none],
  [some (.iconst 0, 1, 0, 0, 0), some (.ireturn, 1, 1, 0, 0), some (.iconst 0, 1, 0, 0, 0), some (.istore 4, 2, 0, 0, 0), none, some (.iload 4, 2, 0, 0, 0), none, some (.bipush 7, 2, 0, 0, 0), none, some (.if_icmp .ge 83, 3, 0, 0, 0), none, none, some (.aload_n 0, 1, 0, 0, 0), some (.getfield 224, 3, 2, 0, 125), none, none]]
noncomputable def tb_96_1 : List (List (Option INS)) := [[some (.iload_n 1, 1, 0, 0, 0), some (.iload 4, 2, 0, 0, 0), none, some (.iastore, 1, 0, 0, 0), some (.aload_n 0, 1, 0, 0, 0), some (.getfield 204, 3, 2, 2, 129), none, none, some (.iload_n 2, 1, 0, 0, 0), some (.iload 4, 2, 0, 0, 0), none, some (.aload_n 0, 1, 0, 0, 0), some (.getfield 206, 3, 2, 3, 131), none, none, some (.iload_n 1, 1, 0, 0, 0)],
  [some (.iadd, 1, 0, 0, 0), some (.invokestatic 200, 3, 23, 436, 0), none, none, some (.istore 5, 2, 0, 0, 0), none, some (.iload 5, 2, 0, 0, 0), none, some (.iconst (-1), 1, 0, 0, 0), some (.if_icmp .eq 7, 3, 0, 0, 0), none, none, some (.iconst 1, 1, 0, 0, 0), some (.goto 4, 3, 0, 0, 0), none, none],
  [some (.iconst 0, 1, 0, 0, 0), some (.istore 6, 2, 0, 0, 0), none, some (.aload_n 0, 1, 0, 0, 0), some (.iload_n 1, 1, 0, 0, 0), some (.iconst 1, 1, 0, 0, 0), some (.iadd, 1, 0, 0, 0), some (.iload 6, 2, 0, 0, 0), none, some (.ifCond .eq 8, 3, 0, 0, 0), none, none, some (.iload 5, 2, 0, 0, 0), none, some (.goto 4, 3, 0, 0, 0), none],
  [none, some (.iload_n 2, 1, 0, 0, 0), some (.iload 6, 2, 0, 0, 0), none, some (.ifCond .eq 9, 3, 0, 0, 0), none, none, some (.iconst 1, 1, 0, 0, 0), some (.iload_n 3, 1, 0, 0, 0), some (.isub, 1, 0, 0, 0), some (.goto 4, 3, 0, 0, 0), none, none, some (.iload_n 3, 1, 0, 0, 0), some (.invokestatic 220, 3, 96, 441, 0), none]]
noncomputable def tb_96_2 : List (List (Option INS)) := [[none, some (.ifCond .eq 5, 3, 0, 0, 0), none, none, some (.iconst 1, 1, 0, 0, 0), some (.ireturn, 1, 1, 0, 0), some (.iinc 4 1, 3, 0, 0, 0), none, none, some (.goto (-84), 3, 0, 0, 0), none, none, some (.iconst 0, 1, 0, 0, 0), some (.ireturn, 1, 1, 0, 0)]]
noncomputable def tb_96 : List (List (Option INS)) := tb_96_0 ++ (tb_96_1 ++ (tb_96_2))
noncomputable def tb_97_0 : List (List (Option INS)) := [[some (.iconst 0, 1, 0, 0, 0), some (.istore_n 3, 1, 0, 0, 0), some (.iconst 0, 1, 0, 0, 0), some (.istore 4, 2, 0, 0, 0), none, some (.iload 4, 2, 0, 0, 0), none, some (.sipush 1000, 3, 0, 0, 0), none, none, some (.if_icmp .ge 95, 3, 0, 0, 0), none, none, some (.aload_n 0, 1, 0, 0, 0), some (.getfield 54, 3, 3, 10, 176), none],
  [none, some (.iload 4, 2, 0, 0, 0), none, some (.iaload, 1, 0, 0, 0), some (.bipush (-9), 2, 0, 0, 0), none, some (.if_icmp .eq 77, 3, 0, 0, 0), none, none, some (.aload_n 0, 1, 0, 0, 0), some (.getfield 54, 3, 3, 10, 176), none, none, some (.iload 4, 2, 0, 0, 0), none, some (.iaload, 1, 0, 0, 0)],
  [some (.iload_n 2, 1, 0, 0, 0), some (.if_icmp .le 6, 3, 0, 0, 0), none, none, some (.goto 63, 3, 0, 0, 0), none, none, some (.iconst 0, 1, 0, 0, 0), some (.istore 5, 2, 0, 0, 0), none, some (.iload 5, 2, 0, 0, 0), none, some (.bipush 7, 2, 0, 0, 0), none, some (.if_icmp .ge 53, 3, 0, 0, 0), none],
  [none, some (.iload_n 1, 1, 0, 0, 0), some (.iload 4, 2, 0, 0, 0), none, some (.iload 5, 2, 0, 0, 0), none, some (.aload_n 0, 1, 0, 0, 0), some (.getfield 21, 3, 3, 2, 168), none, none, some (.getfield 132, 3, 0, 8, 92), none, none, some (.iload_n 2, 1, 0, 0, 0), some (.iadd, 1, 0, 0, 0), some (.invokestatic 240, 3, 24, 458, 0)]]
noncomputable def tb_97_1 : List (List (Option INS)) := [[none, none, some (.istore 6, 2, 0, 0, 0), none, some (.aload_n 0, 1, 0, 0, 0), some (.getfield 54, 3, 3, 10, 176), none, none, some (.iload 6, 2, 0, 0, 0), none, some (.iaload, 1, 0, 0, 0), some (.bipush (-9), 2, 0, 0, 0), none, some (.if_icmp .ne 16, 3, 0, 0, 0), none, none],
  [some (.aload_n 0, 1, 0, 0, 0), some (.getfield 54, 3, 3, 10, 176), none, none, some (.iload 6, 2, 0, 0, 0), none, some (.iload_n 2, 1, 0, 0, 0), some (.iconst 1, 1, 0, 0, 0), some (.iadd, 1, 0, 0, 0), some (.iastore, 1, 0, 0, 0), some (.iinc 3 1, 3, 0, 0, 0), none, none, some (.iinc 5 1, 3, 0, 0, 0), none, none],
  [some (.goto (-54), 3, 0, 0, 0), none, none, some (.iinc 4 1, 3, 0, 0, 0), none, none, some (.goto (-97), 3, 0, 0, 0), none, none, some (.iload_n 3, 1, 0, 0, 0), some (.ireturn, 1, 0, 0, 0)]]
noncomputable def tb_97 : List (List (Option INS)) := tb_97_0 ++ (tb_97_1)
noncomputable def tb_98 : List (List (Option INS)) := [[some (.iload_n 3, 1, 0, 0, 0), some (.ifCond .gt 8, 3, 0, 0, 0), none, none, some (.iload_n 1, 1, 0, 0, 0), some (.invokestatic 331, 3, 29, 488, 0), none, none, some (.ireturn, 1, 0, 0, 0), some (.iconst 0, 1, 0, 0, 0), some (.istore 4, 2, 0, 0, 0), none, some (.iconst 0, 1, 0, 0, 0), some (.istore 5, 2, 0, 0, 0), none, some (.iload 5, 2, 0, 0, 0)],
  [none, some (.bipush 7, 2, 0, 0, 0), none, some (.if_icmp .ge 38, 3, 0, 0, 0), none, none, some (.iload_n 0, 1, 0, 0, 0), some (.iload_n 1, 1, 0, 0, 0), some (.iload 5, 2, 0, 0, 0), none, some (.iload_n 2, 1, 0, 0, 0), some (.invokestatic 240, 3, 24, 458, 0), none, none, some (.istore 6, 2, 0, 0, 0), none],
  [some (.iload 4, 2, 0, 0, 0), none, some (.iload_n 0, 1, 0, 0, 0), some (.iload 6, 2, 0, 0, 0), none, some (.iload_n 2, 1, 0, 0, 0), some (.iconst 2, 1, 0, 0, 0), some (.iadd, 1, 0, 0, 0), some (.iload_n 3, 1, 0, 0, 0), some (.iconst 1, 1, 0, 0, 0), some (.isub, 1, 0, 0, 0), some (.invokestatic 273, 3, 98, 547, 0), none, none, some (.invokestatic 334, 3, 9997, 497, 0), none],
  [none, some (.istore 4, 2, 0, 0, 0), none, some (.iinc 5 1, 3, 0, 0, 0), none, none, some (.goto (-39), 3, 0, 0, 0), none, none, some (.iload 4, 2, 0, 0, 0), none, some (.ireturn, 1, 0, 0, 0)]]
noncomputable def tb_99 : List (List (Option INS)) := [[some (.iconst 0, 1, 0, 0, 0), some (.istore_n 3, 1, 0, 0, 0), some (.iconst 0, 1, 0, 0, 0), some (.istore 4, 2, 0, 0, 0), none, some (.iload 4, 2, 0, 0, 0), none, some (.bipush 6, 2, 0, 0, 0), none, some (.if_icmp .ge 35, 3, 0, 0, 0), none, none, some (.aload_n 0, 1, 0, 0, 0), some (.iload 4, 2, 0, 0, 0), none, some (.aload_n 0, 1, 0, 0, 0)],
  [some (.getfield 21, 3, 3, 2, 168), none, none, some (.getfield 138, 3, 0, 1, 82), none, none, some (.iload_n 1, 1, 0, 0, 0), some (.iaload, 1, 0, 0, 0), some (.aload_n 2, 1, 0, 0, 0), some (.invokevirtual 339, 3, 100, 484, 0), none, none, some (.ifCond .eq 10, 3, 0, 0, 0), none, none, some (.iload_n 3, 1, 0, 0, 0)],
  [some (.iconst 1, 1, 0, 0, 0), some (.iload 4, 2, 0, 0, 0), none, some (.ishl, 1, 0, 0, 0), some (.ior, 1, 0, 0, 0), some (.istore_n 3, 1, 0, 0, 0), some (.iinc 4 1, 3, 0, 0, 0), none, none, some (.goto (-36), 3, 0, 0, 0), none, none, some (.iload_n 3, 1, 0, 0, 0), some (.ireturn, 1, 0, 0, 0)]]
noncomputable def tb_100_0 : List (List (Option INS)) := [[some (.iload_n 2, 1, 0, 0, 0), some (.istore 4, 2, 0, 0, 0), none, some (.iconst 0, 1, 0, 0, 0), some (.istore 5, 2, 0, 0, 0), none, some (.iload 5, 2, 0, 0, 0), none, some (.iconst 1, 1, 0, 0, 0), some (.iadd, 1, 0, 0, 0), some (.aload_n 3, 1, 0, 0, 0), some (.getfield 89, 3, 1, 1, 160), none, none, some (.if_icmp .ge 55, 3, 0, 0, 0), none],
  [none, some (.iload_n 1, 1, 0, 0, 0), some (.iload 4, 2, 0, 0, 0), none, some (.aload_n 3, 1, 0, 0, 0), some (.getfield 82, 3, 1, 0, 158), none, none, some (.iload 5, 2, 0, 0, 0), none, some (.iaload, 1, 0, 0, 0), some (.aload_n 0, 1, 0, 0, 0), some (.getfield 21, 3, 3, 2, 168), none, none, some (.getfield 132, 3, 0, 8, 92)],
  [none, none, some (.iload 5, 2, 0, 0, 0), none, some (.iconst 2, 1, 0, 0, 0), some (.idiv, 1, 0, 0, 0), some (.iadd, 1, 0, 0, 0), some (.invokestatic 240, 3, 24, 458, 0), none, none, some (.istore 4, 2, 0, 0, 0), none, some (.iload 4, 2, 0, 0, 0), none, some (.invokestatic 331, 3, 29, 488, 0), none],
  [none, some (.aload_n 3, 1, 0, 0, 0), some (.getfield 82, 3, 1, 0, 158), none, none, some (.iload 5, 2, 0, 0, 0), none, some (.iconst 1, 1, 0, 0, 0), some (.iadd, 1, 0, 0, 0), some (.iaload, 1, 0, 0, 0), some (.if_icmp .eq 5, 3, 0, 0, 0), none, none, some (.iconst 0, 1, 0, 0, 0), some (.ireturn, 1, 1, 0, 0), some (.iinc 5 2, 3, 0, 0, 0)]]
noncomputable def tb_100_1 : List (List (Option INS)) := [[none, none, some (.goto (-60), 3, 0, 0, 0), none, none, some (.iconst 1, 1, 0, 0, 0), some (.ireturn, 1, 1, 0, 0)]]
noncomputable def tb_100 : List (List (Option INS)) := tb_100_0 ++ (tb_100_1)
noncomputable def tb_101_0 : List (List (Option INS)) := [[some (.aload_n 0, 1, 0, 0, 0), some (.getfield 57, 3, 3, 11, 177), none, none, some (.iconst 0, 1, 0, 0, 0), some (.invokestatic 227, 3, 189, 451, 0), none, none, some (.iconst 0, 1, 0, 0, 0), some (.istore 4, 2, 0, 0, 0), none, some (.iconst 0, 1, 0, 0, 0), some (.istore 5, 2, 0, 0, 0), none, some (.iload 5, 2, 0, 0, 0), none],
  [some (.bipush 6, 2, 0, 0, 0), none, some (.if_icmp .ge 62, 3, 0, 0, 0), none, none, some (.iload_n 1, 1, 0, 0, 0), some (.iload 5, 2, 0, 0, 0), none, some (.ishr, 1, 0, 0, 0), some (.iconst 1, 1, 0, 0, 0), some (.iand, 1, 0, 0, 0), some (.ifCond .eq 47, 3, 0, 0, 0), none, none, some (.iload 5, 2, 0, 0, 0), none],
  [some (.iload_n 2, 1, 0, 0, 0), some (.iload_n 3, 1, 0, 0, 0), some (.aload_n 0, 1, 0, 0, 0), some (.getfield 21, 3, 3, 2, 168), none, none, some (.getfield 132, 3, 0, 8, 92), none, none, some (.invokestatic 240, 3, 24, 458, 0), none, none, some (.invokestatic 331, 3, 29, 488, 0), none, none, some (.istore 6, 2, 0, 0, 0)],
  [none, some (.aload_n 0, 1, 0, 0, 0), some (.getfield 57, 3, 3, 11, 177), none, none, some (.iload 6, 2, 0, 0, 0), none, some (.dup2, 1, 0, 0, 0), some (.iaload, 1, 0, 0, 0), some (.iconst 1, 1, 0, 0, 0), some (.iadd, 1, 0, 0, 0), some (.iastore, 1, 0, 0, 0), some (.iload 4, 2, 0, 0, 0), none, some (.aload_n 0, 1, 0, 0, 0), some (.getfield 57, 3, 3, 11, 177)]]
noncomputable def tb_101_1 : List (List (Option INS)) := [[none, none, some (.iload 6, 2, 0, 0, 0), none, some (.iaload, 1, 0, 0, 0), some (.invokestatic 334, 3, 9997, 497, 0), none, none, some (.istore 4, 2, 0, 0, 0), none, some (.iinc 5 1, 3, 0, 0, 0), none, none, some (.goto (-63), 3, 0, 0, 0), none, none],
  [some (.iload 4, 2, 0, 0, 0), none, some (.ireturn, 1, 0, 0, 0)]]
noncomputable def tb_101 : List (List (Option INS)) := tb_101_0 ++ (tb_101_1)
noncomputable def tb_102 : List (List (Option INS)) := [[some (.bipush 7, 2, 0, 0, 0), none, some (.istore_n 3, 1, 0, 0, 0), some (.iload_n 1, 1, 0, 0, 0), some (.iload_n 1, 1, 0, 0, 0), some (.ineg, 1, 0, 0, 0), some (.iand, 1, 0, 0, 0), some (.istore 4, 2, 0, 0, 0), none, some (.iconst 1, 1, 0, 0, 0), some (.istore 5, 2, 0, 0, 0), none, some (.iload 5, 2, 0, 0, 0), none, some (.iload_n 1, 1, 0, 0, 0), some (.if_icmp .gt 40, 3, 0, 0, 0)],
  [none, none, some (.aload_n 0, 1, 0, 0, 0), some (.iload 5, 2, 0, 0, 0), none, some (.iload 4, 2, 0, 0, 0), none, some (.iload_n 1, 1, 0, 0, 0), some (.iload_n 2, 1, 0, 0, 0), some (.invokevirtual 343, 3, 104, 516, 0), none, none, some (.ifCond .eq 21, 3, 0, 0, 0), none, none, some (.iload_n 3, 1, 0, 0, 0)],
  [some (.iconst 1, 1, 0, 0, 0), some (.aload_n 0, 1, 0, 0, 0), some (.getfield 60, 3, 3, 12, 178), none, none, some (.iload_n 1, 1, 0, 0, 0), some (.iload 5, 2, 0, 0, 0), none, some (.iconst (-1), 1, 0, 0, 0), some (.ixor, 1, 0, 0, 0), some (.iand, 1, 0, 0, 0), some (.iaload, 1, 0, 0, 0), some (.iadd, 1, 0, 0, 0), some (.invokestatic 347, 3, 9996, 524, 0), none, none],
  [some (.istore_n 3, 1, 0, 0, 0), some (.iinc 5 1, 3, 0, 0, 0), none, none, some (.goto (-40), 3, 0, 0, 0), none, none, some (.iload_n 3, 1, 0, 0, 0), some (.ireturn, 1, 0, 0, 0)]]
noncomputable def tb_103 : List (List (Option INS)) := [[some (.iconst 1, 1, 0, 0, 0), some (.istore_n 3, 1, 0, 0, 0), some (.iload_n 3, 1, 0, 0, 0), some (.iload_n 1, 1, 0, 0, 0), some (.if_icmp .gt 43, 3, 0, 0, 0), none, none, some (.aload_n 0, 1, 0, 0, 0), some (.iload_n 3, 1, 0, 0, 0), some (.iconst 1, 1, 0, 0, 0), some (.iload_n 1, 1, 0, 0, 0), some (.iload_n 2, 1, 0, 0, 0), some (.invokevirtual 343, 3, 104, 516, 0), none, none, some (.ifCond .eq 26, 3, 0, 0, 0)],
  [none, none, some (.aload_n 0, 1, 0, 0, 0), some (.getfield 60, 3, 3, 12, 178), none, none, some (.iload_n 1, 1, 0, 0, 0), some (.iload_n 3, 1, 0, 0, 0), some (.iconst (-1), 1, 0, 0, 0), some (.ixor, 1, 0, 0, 0), some (.iand, 1, 0, 0, 0), some (.iaload, 1, 0, 0, 0), some (.iconst 1, 1, 0, 0, 0), some (.iadd, 1, 0, 0, 0), some (.aload_n 0, 1, 0, 0, 0), some (.getfield 60, 3, 3, 12, 178)],
  [none, none, some (.iload_n 1, 1, 0, 0, 0), some (.iaload, 1, 0, 0, 0), some (.if_icmp .ne 5, 3, 0, 0, 0), none, none, some (.iload_n 3, 1, 0, 0, 0), some (.ireturn, 1, 0, 0, 0), some (.iinc 3 1, 3, 0, 0, 0), none, none, some (.goto (-42), 3, 0, 0, 0), none, none, some (.bipush (-9), 2, 0, 0, 0)],
  [none, some (.ireturn, 1, 0, 0, 0)]]
noncomputable def tb_104 : List (List (Option INS)) := [[some (.iload_n 1, 1, 0, 0, 0), some (.iload_n 2, 1, 0, 0, 0), some (.iand, 1, 0, 0, 0), some (.ifCond .eq 28, 3, 0, 0, 0), none, none, some (.iload_n 1, 1, 0, 0, 0), some (.iload_n 3, 1, 0, 0, 0), some (.iconst (-1), 1, 0, 0, 0), some (.ixor, 1, 0, 0, 0), some (.iand, 1, 0, 0, 0), some (.ifCond .ne 20, 3, 0, 0, 0), none, none, some (.aload_n 0, 1, 0, 0, 0), some (.getfield 21, 3, 3, 2, 168)],
  [none, none, some (.iload_n 1, 1, 0, 0, 0), some (.invokevirtual 270, 3, 16, 520, 0), none, none, some (.iload 4, 2, 0, 0, 0), none, some (.if_icmp .gt 7, 3, 0, 0, 0), none, none, some (.iconst 1, 1, 0, 0, 0), some (.goto 4, 3, 0, 0, 0), none, none, some (.iconst 0, 1, 0, 0, 0)],
  [some (.ireturn, 1, 1, 0, 0)]]
noncomputable def tb_105_0 : List (List (Option INS)) := [[some (.aload_n 0, 1, 0, 0, 0), some (.iload_n 1, 1, 0, 0, 0), some (.invokevirtual 117, 3, 82, 304, 0), none, none, some (.ifCond .eq 20, 3, 0, 0, 0), none, none, some (.iload_n 2, 1, 0, 0, 0), some (.invokestatic 66, 3, 78, 210, 0), none, none, some (.ifCond .eq 13, 3, 0, 0, 0), none, none, some (.iload_n 3, 1, 0, 0, 0)],
  [some (.ifCond .lt 9, 3, 0, 0, 0), none, none, some (.iload_n 3, 1, 0, 0, 0), some (.bipush 12, 2, 0, 0, 0), none, some (.if_icmp .le 5, 3, 0, 0, 0), none, none, some (.iconst (-1), 1, 0, 0, 0), some (.ireturn, 1, 0, 0, 0), some (.aload_n 0, 1, 0, 0, 0), some (.aload_n 0, 1, 0, 0, 0), some (.getfield 11, 3, 3, 0, 166), none, none],
  [some (.iload_n 2, 1, 0, 0, 0), some (.aaload, 1, 0, 0, 0), some (.iconst 1, 1, 0, 0, 0), some (.bipush 6, 2, 0, 0, 0), none, some (.iconst 0, 1, 0, 0, 0), some (.bipush 6, 2, 0, 0, 0), none, some (.invokevirtual 196, 3, 85, 432, 0), none, none, some (.istore 5, 2, 0, 0, 0), none, some (.iload 5, 2, 0, 0, 0), none, some (.ifCond .eq 6, 3, 0, 0, 0)],
  [none, none, some (.iload 5, 2, 0, 0, 0), none, some (.ireturn, 1, 0, 0, 0), some (.aload_n 0, 1, 0, 0, 0), some (.iload_n 1, 1, 0, 0, 0), some (.aload_n 0, 1, 0, 0, 0), some (.getfield 11, 3, 3, 0, 166), none, none, some (.iload_n 2, 1, 0, 0, 0), some (.aaload, 1, 0, 0, 0), some (.iload_n 3, 1, 0, 0, 0), some (.iload 4, 2, 0, 0, 0), none]]
noncomputable def tb_105_1 : List (List (Option INS)) := [[some (.invokevirtual 350, 3, 106, 558, 0), none, none, some (.iconst 1, 1, 0, 0, 0), some (.ireturn, 1, 0, 0, 0)]]
noncomputable def tb_105 : List (List (Option INS)) := tb_105_0 ++ (tb_105_1)
noncomputable def tb_106_0 : List (List (Option INS)) := [[some (.lconst 1, 1, 0, 0, 0), some (.lstore 5, 2, 0, 0, 0), none, some (.iconst 0, 1, 0, 0, 0), some (.istore 7, 2, 0, 0, 0), none, some (.iload 7, 2, 0, 0, 0), none, some (.aload_n 2, 1, 0, 0, 0), some (.getfield 89, 3, 1, 1, 160), none, none, some (.if_icmp .ge 17, 3, 0, 0, 0), none, none, some (.lload 5, 2, 0, 0, 0)],
  [none, some (.ldc2_w 354, 3, 562, 0, 12), none, none, some (.lmul, 1, 0, 0, 0), some (.lstore 5, 2, 0, 0, 0), none, some (.iinc 7 1, 3, 0, 0, 0), none, none, some (.goto (-20), 3, 0, 0, 0), none, none, some (.lconst 0, 1, 0, 0, 0), some (.lstore 7, 2, 0, 0, 0), none],
  [some (.iconst 0, 1, 0, 0, 0), some (.istore 9, 2, 0, 0, 0), none, some (.iload 9, 2, 0, 0, 0), none, some (.iconst 1, 1, 0, 0, 0), some (.aload_n 2, 1, 0, 0, 0), some (.getfield 89, 3, 1, 1, 160), none, none, some (.ishl, 1, 0, 0, 0), some (.if_icmp .ge 25, 3, 0, 0, 0), none, none, some (.lload 7, 2, 0, 0, 0), none],
  [some (.aload_n 0, 1, 0, 0, 0), some (.iload_n 1, 1, 0, 0, 0), some (.aload_n 2, 1, 0, 0, 0), some (.iload_n 3, 1, 0, 0, 0), some (.iload 9, 2, 0, 0, 0), none, some (.iload 4, 2, 0, 0, 0), none, some (.invokevirtual 356, 3, 107, 563, 0), none, none, some (.ladd, 1, 0, 0, 0), some (.lstore 7, 2, 0, 0, 0), none, some (.iinc 9 1, 3, 0, 0, 0), none]]
noncomputable def tb_106_1 : List (List (Option INS)) := [[none, some (.goto (-30), 3, 0, 0, 0), none, none, some (.aload_n 0, 1, 0, 0, 0), some (.lload 7, 2, 0, 0, 0), none, some (.lload 5, 2, 0, 0, 0), none, some (.invokevirtual 236, 3, 94, 461, 0), none, none, some (.return_, 1, 0, 0, 0)]]
noncomputable def tb_106 : List (List (Option INS)) := tb_106_0 ++ (tb_106_1)
noncomputable def tb_107_0 : List (List (Option INS)) := [[some (.aload_n 0, 1, 0, 0, 0), some (.getfield 21, 3, 3, 2, 168), none, none, some (.getfield 138, 3, 0, 1, 82), none, none, some (.iload_n 1, 1, 0, 0, 0), some (.iaload, 1, 0, 0, 0), some (.istore 6, 2, 0, 0, 0), none, some (.iconst 0, 1, 0, 0, 0), some (.istore 7, 2, 0, 0, 0), none, some (.lconst 1, 1, 0, 0, 0), some (.lstore 8, 2, 0, 0, 0)],
  [none, some (.iconst 0, 1, 0, 0, 0), some (.istore 10, 2, 0, 0, 0), none, some (.iload 10, 2, 0, 0, 0), none, some (.aload_n 2, 1, 0, 0, 0), some (.getfield 89, 3, 1, 1, 160), none, none, some (.if_icmp .ge 85, 3, 0, 0, 0), none, none, some (.iload 4, 2, 0, 0, 0), none, some (.iload 10, 2, 0, 0, 0)],
  [none, some (.ishr, 1, 0, 0, 0), some (.iconst 1, 1, 0, 0, 0), some (.iand, 1, 0, 0, 0), some (.ifCond .ne 13, 3, 0, 0, 0), none, none, some (.lload 8, 2, 0, 0, 0), none, some (.iload_n 3, 1, 0, 0, 0), some (.i2l, 1, 0, 0, 0), some (.lmul, 1, 0, 0, 0), some (.lstore 8, 2, 0, 0, 0), none, some (.goto 59, 3, 0, 0, 0), none],
  [none, some (.lload 8, 2, 0, 0, 0), none, some (.bipush 12, 2, 0, 0, 0), none, some (.iload_n 3, 1, 0, 0, 0), some (.isub, 1, 0, 0, 0), some (.i2l, 1, 0, 0, 0), some (.lmul, 1, 0, 0, 0), some (.lstore 8, 2, 0, 0, 0), none, some (.aload_n 0, 1, 0, 0, 0), some (.getfield 21, 3, 3, 2, 168), none, none, some (.getfield 126, 3, 0, 0, 80)]]
noncomputable def tb_107_1 : List (List (Option INS)) := [[none, none, some (.iload_n 1, 1, 0, 0, 0), some (.iaload, 1, 0, 0, 0), some (.iload 6, 2, 0, 0, 0), none, some (.aload_n 2, 1, 0, 0, 0), some (.getfield 82, 3, 1, 0, 158), none, none, some (.iload 10, 2, 0, 0, 0), none, some (.iaload, 1, 0, 0, 0), some (.aload_n 0, 1, 0, 0, 0), some (.getfield 21, 3, 3, 2, 168), none],
  [none, some (.getfield 132, 3, 0, 8, 92), none, none, some (.iload 10, 2, 0, 0, 0), none, some (.iadd, 1, 0, 0, 0), some (.invokestatic 200, 3, 23, 436, 0), none, none, some (.istore 11, 2, 0, 0, 0), none, some (.iload 11, 2, 0, 0, 0), none, some (.iconst (-1), 1, 0, 0, 0), some (.if_icmp .eq 10, 3, 0, 0, 0)],
  [none, none, some (.iload 11, 2, 0, 0, 0), none, some (.istore 6, 2, 0, 0, 0), none, some (.iinc 7 1, 3, 0, 0, 0), none, none, some (.iinc 10 1, 3, 0, 0, 0), none, none, some (.goto (-88), 3, 0, 0, 0), none, none, some (.lload 8, 2, 0, 0, 0)],
  [none, some (.iload 5, 2, 0, 0, 0), none, some (.ifCond .eq 10, 3, 0, 0, 0), none, none, some (.iload 7, 2, 0, 0, 0), none, some (.iconst 2, 1, 0, 0, 0), some (.irem, 1, 0, 0, 0), some (.goto 8, 3, 0, 0, 0), none, none, some (.iload 6, 2, 0, 0, 0), none, some (.invokestatic 331, 3, 29, 488, 0)]]
noncomputable def tb_107_2 : List (List (Option INS)) := [[none, none, some (.i2l, 1, 0, 0, 0), some (.lmul, 1, 0, 0, 0), some (.lreturn, 1, 0, 0, 0)]]
noncomputable def tb_107 : List (List (Option INS)) := tb_107_0 ++ (tb_107_1 ++ (tb_107_2))
noncomputable def tb_108_0 : List (List (Option INS)) := [[some (.aload_n 0, 1, 0, 0, 0), some (.invokespecial 1, 3, 9998, 640, 0), none, none, some (.aload_n 0, 1, 0, 0, 0), some (.bipush 6, 2, 0, 0, 0), none, some (.newarray .int, 2, 0, 0, 0), none, some (.putfield 7, 3, 4, 0, 641), none, none, some (.aload_n 0, 1, 0, 0, 0), some (.sipush 240, 3, 0, 0, 0), none, none],
  [some (.newarray .int, 2, 0, 0, 0), none, some (.putfield 13, 3, 4, 1, 642), none, none, some (.aload_n 0, 1, 0, 0, 0), some (.iconst 4, 1, 0, 0, 0), some (.newarray .int, 2, 0, 0, 0), none, some (.putfield 16, 3, 4, 2, 643), none, none, some (.aload_n 0, 1, 0, 0, 0), some (.sipush 240, 3, 0, 0, 0), none, none],
  [some (.newarray .int, 2, 0, 0, 0), none, some (.putfield 19, 3, 4, 3, 644), none, none, some (.aload_n 0, 1, 0, 0, 0), some (.bipush 6, 2, 0, 0, 0), none, some (.newarray .int, 2, 0, 0, 0), none, some (.putfield 22, 3, 4, 5, 646), none, none, some (.aload_n 0, 1, 0, 0, 0), some (.bipush 25, 2, 0, 0, 0), none],
  [some (.newarray .int, 2, 0, 0, 0), none, some (.putfield 25, 3, 4, 6, 647), none, none, some (.aload_n 0, 1, 0, 0, 0), some (.bipush 25, 2, 0, 0, 0), none, some (.newarray .int, 2, 0, 0, 0), none, some (.putfield 28, 3, 4, 7, 648), none, none, some (.aload_n 0, 1, 0, 0, 0), some (.sipush 1000, 3, 0, 0, 0), none]]
noncomputable def tb_108_1 : List (List (Option INS)) := [[none, some (.newarray .int, 2, 0, 0, 0), none, some (.putfield 31, 3, 4, 8, 649), none, none, some (.aload_n 0, 1, 0, 0, 0), some (.sipush 3078, 3, 0, 0, 0), none, none, some (.newarray .int, 2, 0, 0, 0), none, some (.putfield 34, 3, 4, 10, 651), none, none, some (.aload_n 0, 1, 0, 0, 0)],
  [some (.iconst 3, 1, 0, 0, 0), some (.newarray .boolean, 2, 0, 0, 0), none, some (.putfield 37, 3, 4, 11, 652), none, none, some (.aload_n 0, 1, 0, 0, 0), some (.lconst 1, 1, 0, 0, 0), some (.putfield 41, 3, 4, 14, 655), none, none, some (.aload_n 0, 1, 0, 0, 0), some (.bipush 6, 2, 0, 0, 0), none, some (.newarray .int, 2, 0, 0, 0), none],
  [some (.putfield 45, 3, 4, 16, 657), none, none, some (.aload_n 0, 1, 0, 0, 0), some (.bipush 6, 2, 0, 0, 0), none, some (.newarray .int, 2, 0, 0, 0), none, some (.putfield 48, 3, 4, 18, 659), none, none, some (.aload_n 0, 1, 0, 0, 0), some (.bipush 25, 2, 0, 0, 0), none, some (.newarray .int, 2, 0, 0, 0), none],
  [some (.putfield 51, 3, 4, 19, 660), none, none, some (.aload_n 0, 1, 0, 0, 0), some (.sipush 1000, 3, 0, 0, 0), none, none, some (.newarray .boolean, 2, 0, 0, 0), none, some (.putfield 54, 3, 4, 20, 661), none, none, some (.aload_n 0, 1, 0, 0, 0), some (.bipush 6, 2, 0, 0, 0), none, some (.newarray .int, 2, 0, 0, 0)]]
noncomputable def tb_108_2 : List (List (Option INS)) := [[none, some (.putfield 57, 3, 4, 21, 662), none, none, some (.aload_n 0, 1, 0, 0, 0), some (.bipush 64, 2, 0, 0, 0), none, some (.newarray .int, 2, 0, 0, 0), none, some (.putfield 60, 3, 4, 22, 663), none, none, some (.aload_n 0, 1, 0, 0, 0), some (.sipush 2401, 3, 0, 0, 0), none, none],
  [some (.newarray .int, 2, 0, 0, 0), none, some (.putfield 63, 3, 4, 23, 664), none, none, some (.iconst 0, 1, 0, 0, 0), some (.istore_n 1, 1, 0, 0, 0), some (.iload_n 1, 1, 0, 0, 0), some (.bipush 6, 2, 0, 0, 0), none, some (.if_icmp .ge 16, 3, 0, 0, 0), none, none, some (.aload_n 0, 1, 0, 0, 0), some (.getfield 7, 3, 4, 0, 641), none],
  [none, some (.iload_n 1, 1, 0, 0, 0), some (.iconst (-1), 1, 0, 0, 0), some (.iastore, 1, 0, 0, 0), some (.iinc 1 1, 3, 0, 0, 0), none, none, some (.goto (-16), 3, 0, 0, 0), none, none, some (.iconst 0, 1, 0, 0, 0), some (.istore_n 1, 1, 0, 0, 0), some (.iload_n 1, 1, 0, 0, 0), some (.iconst 4, 1, 0, 0, 0), some (.if_icmp .ge 16, 3, 0, 0, 0), none],
  [none, some (.aload_n 0, 1, 0, 0, 0), some (.getfield 16, 3, 4, 2, 643), none, none, some (.iload_n 1, 1, 0, 0, 0), some (.iconst (-1), 1, 0, 0, 0), some (.iastore, 1, 0, 0, 0), some (.iinc 1 1, 3, 0, 0, 0), none, none, some (.goto (-15), 3, 0, 0, 0), none, none, some (.return_, 1, 0, 0, 0)]]
noncomputable def tb_108 : List (List (Option INS)) := tb_108_0 ++ (tb_108_1 ++ (tb_108_2))
noncomputable def tb_109 : List (List (Option INS)) := [[some (.iload_n 0, 1, 0, 0, 0), some (.iload_n 1, 1, 0, 0, 0), some (.if_icmp .lt 12, 3, 0, 0, 0), none, none, some (.iload_n 0, 1, 0, 0, 0), some (.iload_n 2, 1, 0, 0, 0), some (.if_icmp .gt 7, 3, 0, 0, 0), none, none, some (.iconst 1, 1, 0, 0, 0), some (.goto 4, 3, 0, 0, 0), none, none, some (.iconst 0, 1, 0, 0, 0), some (.ireturn, 1, 1, 0, 0)]]
noncomputable def tb_110 : List (List (Option INS)) := [[some (.iconst 0, 1, 0, 0, 0), some (.istore_n 1, 1, 0, 0, 0), some (.iload_n 0, 1, 0, 0, 0), some (.istore_n 2, 1, 0, 0, 0), some (.iload_n 2, 1, 0, 0, 0), some (.ifCond .eq 15, 3, 0, 0, 0), none, none, some (.iinc 1 1, 3, 0, 0, 0), none, none, some (.iload_n 2, 1, 0, 0, 0), some (.iload_n 2, 1, 0, 0, 0), some (.iconst 1, 1, 0, 0, 0), some (.isub, 1, 0, 0, 0), some (.iand, 1, 0, 0, 0)],
  [some (.istore_n 2, 1, 0, 0, 0), some (.goto (-13), 3, 0, 0, 0), none, none, some (.iload_n 1, 1, 0, 0, 0), some (.ireturn, 1, 0, 0, 0)]]
noncomputable def tb_111 : List (List (Option INS)) := [[some (.iconst 0, 1, 0, 0, 0), some (.istore 5, 2, 0, 0, 0), none, some (.iload 5, 2, 0, 0, 0), none, some (.iload 4, 2, 0, 0, 0), none, some (.if_icmp .ge 21, 3, 0, 0, 0), none, none, some (.aload_n 2, 1, 0, 0, 0), some (.iload_n 3, 1, 0, 0, 0), some (.iload 5, 2, 0, 0, 0), none, some (.iadd, 1, 0, 0, 0), some (.aload_n 0, 1, 0, 0, 0)],
  [some (.iload_n 1, 1, 0, 0, 0), some (.iload 5, 2, 0, 0, 0), none, some (.iadd, 1, 0, 0, 0), some (.iaload, 1, 0, 0, 0), some (.iastore, 1, 0, 0, 0), some (.iinc 5 1, 3, 0, 0, 0), none, none, some (.goto (-22), 3, 0, 0, 0), none, none, some (.return_, 1, 0, 0, 0)]]
noncomputable def tb_112 : List (List (Option INS)) := [[some (.aload_n 0, 1, 0, 0, 0), some (.iload_n 1, 1, 0, 0, 0), some (.putfield 66, 3, 4, 15, 656), none, none, some (.aload_n 0, 1, 0, 0, 0), some (.getfield 45, 3, 4, 16, 657), none, none, some (.iload_n 1, 1, 0, 0, 0), some (.dup2, 1, 0, 0, 0), some (.iaload, 1, 0, 0, 0), some (.iconst 1, 1, 0, 0, 0), some (.iadd, 1, 0, 0, 0), some (.iastore, 1, 0, 0, 0), some (.bipush (-3), 2, 0, 0, 0)],
  [none, some (.ireturn, 1, 0, 0, 0)]]
noncomputable def tb_113 : List (List (Option INS)) := [[some (.aload_n 0, 1, 0, 0, 0), some (.iload_n 1, 1, 0, 0, 0), some (.putfield 70, 3, 4, 12, 653), none, none, some (.iload_n 2, 1, 0, 0, 0), some (.ireturn, 1, 0, 0, 0)]]
noncomputable def tb_114 : List (List (Option INS)) := [[some (.iload_n 1, 1, 0, 0, 0), some (.iconst 0, 1, 0, 0, 0), some (.aload_n 0, 1, 0, 0, 0), some (.getfield 73, 3, 4, 4, 645), none, none, some (.iconst 1, 1, 0, 0, 0), some (.isub, 1, 0, 0, 0), some (.invokestatic 76, 3, 109, 722, 0), none, none, some (.ireturn, 1, 1, 0, 0)]]
noncomputable def tb_115 : List (List (Option INS)) := [[some (.iload_n 0, 1, 0, 0, 0), some (.iconst 0, 1, 0, 0, 0), some (.iconst 5, 1, 0, 0, 0), some (.invokestatic 76, 3, 109, 722, 0), none, none, some (.ireturn, 1, 1, 0, 0)]]
noncomputable def tb_116 : List (List (Option INS)) := [[some (.iload_n 0, 1, 0, 0, 0), some (.iconst 0, 1, 0, 0, 0), some (.iconst 3, 1, 0, 0, 0), some (.invokestatic 76, 3, 109, 722, 0), none, none, some (.ireturn, 1, 1, 0, 0)]]
noncomputable def tb_117 : List (List (Option INS)) := [[some (.aload_n 0, 1, 0, 0, 0), some (.getfield 7, 3, 4, 0, 641), none, none, some (.iload_n 1, 1, 0, 0, 0), some (.iload_n 2, 1, 0, 0, 0), some (.iastore, 1, 0, 0, 0), some (.iconst 0, 1, 0, 0, 0), some (.istore_n 3, 1, 0, 0, 0), some (.iload_n 3, 1, 0, 0, 0), some (.iload_n 2, 1, 0, 0, 0), some (.if_icmp .ge 21, 3, 0, 0, 0), none, none, some (.aload_n 0, 1, 0, 0, 0), some (.getfield 13, 3, 4, 1, 642)],
  [none, none, some (.bipush 40, 2, 0, 0, 0), none, some (.iload_n 1, 1, 0, 0, 0), some (.imul, 1, 0, 0, 0), some (.iload_n 3, 1, 0, 0, 0), some (.iadd, 1, 0, 0, 0), some (.iconst 0, 1, 0, 0, 0), some (.iastore, 1, 0, 0, 0), some (.iinc 3 1, 3, 0, 0, 0), none, none, some (.goto (-20), 3, 0, 0, 0), none, none],
  [some (.return_, 1, 0, 0, 0)]]
noncomputable def tb_118 : List (List (Option INS)) := [[some (.iload_n 1, 1, 0, 0, 0), some (.invokestatic 80, 3, 115, 719, 0), none, none, some (.ifCond .eq 9, 3, 0, 0, 0), none, none, some (.iload_n 2, 1, 0, 0, 0), some (.bipush 40, 2, 0, 0, 0), none, some (.if_icmp .le 5, 3, 0, 0, 0), none, none, some (.iconst (-1), 1, 0, 0, 0), some (.ireturn, 1, 0, 0, 0), some (.iload_n 2, 1, 0, 0, 0)],
  [some (.ifCond .ge 9, 3, 0, 0, 0), none, none, some (.aload_n 0, 1, 0, 0, 0), some (.iconst 5, 1, 0, 0, 0), some (.invokevirtual 84, 3, 112, 725, 0), none, none, some (.ireturn, 1, 0, 0, 0), some (.aload_n 0, 1, 0, 0, 0), some (.iload_n 1, 1, 0, 0, 0), some (.iload_n 2, 1, 0, 0, 0), some (.invokevirtual 88, 3, 117, 729, 0), none, none, some (.iload_n 2, 1, 0, 0, 0)],
  [some (.ireturn, 1, 0, 0, 0)]]
noncomputable def tb_119 : List (List (Option INS)) := [[some (.aload_n 0, 1, 0, 0, 0), some (.getfield 7, 3, 4, 0, 641), none, none, some (.iload_n 1, 1, 0, 0, 0), some (.iaload, 1, 0, 0, 0), some (.ifCond .ge 7, 3, 0, 0, 0), none, none, some (.iconst 1, 1, 0, 0, 0), some (.goto 24, 3, 0, 0, 0), none, none, some (.iload_n 2, 1, 0, 0, 0), some (.iconst 0, 1, 0, 0, 0), some (.aload_n 0, 1, 0, 0, 0)],
  [some (.getfield 7, 3, 4, 0, 641), none, none, some (.iload_n 1, 1, 0, 0, 0), some (.iaload, 1, 0, 0, 0), some (.iconst 1, 1, 0, 0, 0), some (.isub, 1, 0, 0, 0), some (.invokestatic 76, 3, 109, 722, 0), none, none, some (.ifCond .eq 7, 3, 0, 0, 0), none, none, some (.iconst 0, 1, 0, 0, 0), some (.goto 4, 3, 0, 0, 0), none],
  [none, some (.iconst 2, 1, 0, 0, 0), some (.ireturn, 1, 0, 0, 0)]]
noncomputable def tb_120 : List (List (Option INS)) := [[some (.iload_n 1, 1, 0, 0, 0), some (.invokestatic 80, 3, 115, 719, 0), none, none, some (.ifCond .ne 5, 3, 0, 0, 0), none, none, some (.iconst (-1), 1, 0, 0, 0), some (.ireturn, 1, 0, 0, 0), some (.aload_n 0, 1, 0, 0, 0), some (.iload_n 1, 1, 0, 0, 0), some (.iload_n 2, 1, 0, 0, 0), some (.invokevirtual 92, 3, 119, 737, 0), none, none, some (.istore 4, 2, 0, 0, 0)],
  [none, some (.iload 4, 2, 0, 0, 0), none, some (.ifCond .eq 10, 3, 0, 0, 0), none, none, some (.aload_n 0, 1, 0, 0, 0), some (.iload 4, 2, 0, 0, 0), none, some (.invokevirtual 84, 3, 112, 725, 0), none, none, some (.ireturn, 1, 0, 0, 0), some (.aload_n 0, 1, 0, 0, 0), some (.getfield 13, 3, 4, 1, 642), none],
  [none, some (.bipush 40, 2, 0, 0, 0), none, some (.iload_n 1, 1, 0, 0, 0), some (.imul, 1, 0, 0, 0), some (.iload_n 2, 1, 0, 0, 0), some (.iadd, 1, 0, 0, 0), some (.iaload, 1, 0, 0, 0), some (.istore 5, 2, 0, 0, 0), none, some (.aload_n 0, 1, 0, 0, 0), some (.getfield 13, 3, 4, 1, 642), none, none, some (.bipush 40, 2, 0, 0, 0), none],
  [some (.iload_n 1, 1, 0, 0, 0), some (.imul, 1, 0, 0, 0), some (.iload_n 2, 1, 0, 0, 0), some (.iadd, 1, 0, 0, 0), some (.iload_n 3, 1, 0, 0, 0), some (.iastore, 1, 0, 0, 0), some (.aload_n 0, 1, 0, 0, 0), some (.iload 5, 2, 0, 0, 0), none, some (.iconst 1, 1, 0, 0, 0), some (.invokevirtual 96, 3, 113, 741, 0), none, none, some (.ireturn, 1, 0, 0, 0)]]
noncomputable def tb_121 : List (List (Option INS)) := [[some (.iload_n 1, 1, 0, 0, 0), some (.invokestatic 80, 3, 115, 719, 0), none, none, some (.ifCond .ne 5, 3, 0, 0, 0), none, none, some (.iconst (-1), 1, 0, 0, 0), some (.ireturn, 1, 0, 0, 0), some (.aload_n 0, 1, 0, 0, 0), some (.iload_n 1, 1, 0, 0, 0), some (.iload_n 2, 1, 0, 0, 0), some (.invokevirtual 92, 3, 119, 737, 0), none, none, some (.istore_n 3, 1, 0, 0, 0)],
  [some (.iload_n 3, 1, 0, 0, 0), some (.ifCond .eq 11, 3, 0, 0, 0), none, none, some (.aload_n 0, 1, 0, 0, 0), some (.iload_n 3, 1, 0, 0, 0), some (.invokevirtual 84, 3, 112, 725, 0), none, none, some (.goto 19, 3, 0, 0, 0), none, none, some (.aload_n 0, 1, 0, 0, 0), some (.aload_n 0, 1, 0, 0, 0), some (.getfield 13, 3, 4, 1, 642), none],
  [none, some (.bipush 40, 2, 0, 0, 0), none, some (.iload_n 1, 1, 0, 0, 0), some (.imul, 1, 0, 0, 0), some (.iload_n 2, 1, 0, 0, 0), some (.iadd, 1, 0, 0, 0), some (.iaload, 1, 0, 0, 0), some (.iconst 1, 1, 0, 0, 0), some (.invokevirtual 96, 3, 113, 741, 0), none, none, some (.ireturn, 1, 0, 0, 0)]]
noncomputable def tb_122 : List (List (Option INS)) := [[some (.iload_n 1, 1, 0, 0, 0), some (.invokestatic 80, 3, 115, 719, 0), none, none, some (.ifCond .ne 5, 3, 0, 0, 0), none, none, some (.iconst (-1), 1, 0, 0, 0), some (.ireturn, 1, 0, 0, 0), some (.aload_n 0, 1, 0, 0, 0), some (.getfield 7, 3, 4, 0, 641), none, none, some (.iload_n 1, 1, 0, 0, 0), some (.iaload, 1, 0, 0, 0), some (.ifCond .ge 9, 3, 0, 0, 0)],
  [none, none, some (.aload_n 0, 1, 0, 0, 0), some (.iconst 1, 1, 0, 0, 0), some (.invokevirtual 84, 3, 112, 725, 0), none, none, some (.ireturn, 1, 0, 0, 0), some (.aload_n 0, 1, 0, 0, 0), some (.getfield 7, 3, 4, 0, 641), none, none, some (.iload_n 1, 1, 0, 0, 0), some (.iconst (-1), 1, 0, 0, 0), some (.iastore, 1, 0, 0, 0), some (.iconst 1, 1, 0, 0, 0)],
  [some (.ireturn, 1, 0, 0, 0)]]
noncomputable def tb_123_0 : List (List (Option INS)) := [[some (.iload_n 1, 1, 0, 0, 0), some (.invokestatic 80, 3, 115, 719, 0), none, none, some (.ifCond .eq 10, 3, 0, 0, 0), none, none, some (.iload_n 3, 1, 0, 0, 0), some (.invokestatic 80, 3, 115, 719, 0), none, none, some (.ifCond .ne 5, 3, 0, 0, 0), none, none, some (.iconst (-1), 1, 0, 0, 0), some (.ireturn, 1, 0, 0, 0)],
  [some (.iload 5, 2, 0, 0, 0), none, some (.ifCond .ge 9, 3, 0, 0, 0), none, none, some (.aload_n 0, 1, 0, 0, 0), some (.iconst 5, 1, 0, 0, 0), some (.invokevirtual 84, 3, 112, 725, 0), none, none, some (.ireturn, 1, 0, 0, 0), some (.aload_n 0, 1, 0, 0, 0), some (.getfield 7, 3, 4, 0, 641), none, none, some (.iload_n 1, 1, 0, 0, 0)],
  [some (.iaload, 1, 0, 0, 0), some (.ifCond .lt 12, 3, 0, 0, 0), none, none, some (.aload_n 0, 1, 0, 0, 0), some (.getfield 7, 3, 4, 0, 641), none, none, some (.iload_n 3, 1, 0, 0, 0), some (.iaload, 1, 0, 0, 0), some (.ifCond .ge 9, 3, 0, 0, 0), none, none, some (.aload_n 0, 1, 0, 0, 0), some (.iconst 1, 1, 0, 0, 0), some (.invokevirtual 84, 3, 112, 725, 0)],
  [none, none, some (.ireturn, 1, 0, 0, 0), some (.iload_n 2, 1, 0, 0, 0), some (.ifCond .lt 42, 3, 0, 0, 0), none, none, some (.iload 4, 2, 0, 0, 0), none, some (.ifCond .lt 37, 3, 0, 0, 0), none, none, some (.iload 5, 2, 0, 0, 0), none, some (.bipush 40, 2, 0, 0, 0), none]]
noncomputable def tb_123_1 : List (List (Option INS)) := [[some (.if_icmp .gt 30, 3, 0, 0, 0), none, none, some (.iload_n 2, 1, 0, 0, 0), some (.aload_n 0, 1, 0, 0, 0), some (.getfield 7, 3, 4, 0, 641), none, none, some (.iload_n 1, 1, 0, 0, 0), some (.iaload, 1, 0, 0, 0), some (.iload 5, 2, 0, 0, 0), none, some (.isub, 1, 0, 0, 0), some (.if_icmp .gt 17, 3, 0, 0, 0), none, none],
  [some (.iload 4, 2, 0, 0, 0), none, some (.aload_n 0, 1, 0, 0, 0), some (.getfield 7, 3, 4, 0, 641), none, none, some (.iload_n 3, 1, 0, 0, 0), some (.iaload, 1, 0, 0, 0), some (.iload 5, 2, 0, 0, 0), none, some (.isub, 1, 0, 0, 0), some (.if_icmp .le 9, 3, 0, 0, 0), none, none, some (.aload_n 0, 1, 0, 0, 0), some (.iconst 2, 1, 0, 0, 0)],
  [some (.invokevirtual 84, 3, 112, 725, 0), none, none, some (.ireturn, 1, 0, 0, 0), some (.iload 4, 2, 0, 0, 0), none, some (.iload_n 2, 1, 0, 0, 0), some (.if_icmp .le 7, 3, 0, 0, 0), none, none, some (.iconst 1, 1, 0, 0, 0), some (.goto 4, 3, 0, 0, 0), none, none, some (.iconst 0, 1, 0, 0, 0), some (.istore 6, 2, 0, 0, 0)],
  [none, some (.iconst 0, 1, 0, 0, 0), some (.istore 7, 2, 0, 0, 0), none, some (.iload 7, 2, 0, 0, 0), none, some (.iload 5, 2, 0, 0, 0), none, some (.if_icmp .ge 57, 3, 0, 0, 0), none, none, some (.iload 6, 2, 0, 0, 0), none, some (.ifCond .eq 13, 3, 0, 0, 0), none, none]]
noncomputable def tb_123_2 : List (List (Option INS)) := [[some (.iload 5, 2, 0, 0, 0), none, some (.iconst 1, 1, 0, 0, 0), some (.isub, 1, 0, 0, 0), some (.iload 7, 2, 0, 0, 0), none, some (.isub, 1, 0, 0, 0), some (.goto 5, 3, 0, 0, 0), none, none, some (.iload 7, 2, 0, 0, 0), none, some (.istore 8, 2, 0, 0, 0), none, some (.aload_n 0, 1, 0, 0, 0), some (.getfield 13, 3, 4, 1, 642)],
  [none, none, some (.bipush 40, 2, 0, 0, 0), none, some (.iload_n 3, 1, 0, 0, 0), some (.imul, 1, 0, 0, 0), some (.iload 4, 2, 0, 0, 0), none, some (.iadd, 1, 0, 0, 0), some (.iload 8, 2, 0, 0, 0), none, some (.iadd, 1, 0, 0, 0), some (.aload_n 0, 1, 0, 0, 0), some (.getfield 13, 3, 4, 1, 642), none, none],
  [some (.bipush 40, 2, 0, 0, 0), none, some (.iload_n 1, 1, 0, 0, 0), some (.imul, 1, 0, 0, 0), some (.iload_n 2, 1, 0, 0, 0), some (.iadd, 1, 0, 0, 0), some (.iload 8, 2, 0, 0, 0), none, some (.iadd, 1, 0, 0, 0), some (.iaload, 1, 0, 0, 0), some (.iastore, 1, 0, 0, 0), some (.iinc 7 1, 3, 0, 0, 0), none, none, some (.goto (-58), 3, 0, 0, 0), none],
  [none, some (.iconst 1, 1, 0, 0, 0), some (.ireturn, 1, 0, 0, 0)]]
noncomputable def tb_123 : List (List (Option INS)) := tb_123_0 ++ (tb_123_1 ++ (tb_123_2))
noncomputable def tb_124_0 : List (List (Option INS)) := [[some (.iload_n 1, 1, 0, 0, 0), some (.invokestatic 80, 3, 115, 719, 0), none, none, some (.ifCond .ne 5, 3, 0, 0, 0), none, none, some (.iconst (-1), 1, 0, 0, 0), some (.ireturn, 1, 0, 0, 0), some (.aload_n 0, 1, 0, 0, 0), some (.getfield 7, 3, 4, 0, 641), none, none, some (.iload_n 1, 1, 0, 0, 0), some (.iaload, 1, 0, 0, 0), some (.ifCond .ge 9, 3, 0, 0, 0)],
  [none, none, some (.aload_n 0, 1, 0, 0, 0), some (.iconst 1, 1, 0, 0, 0), some (.invokevirtual 84, 3, 112, 725, 0), none, none, some (.ireturn, 1, 0, 0, 0), some (.aload_n 0, 1, 0, 0, 0), some (.getfield 7, 3, 4, 0, 641), none, none, some (.iload_n 1, 1, 0, 0, 0), some (.iaload, 1, 0, 0, 0), some (.ifCond .ne 9, 3, 0, 0, 0), none],
  [none, some (.aload_n 0, 1, 0, 0, 0), some (.iconst 4, 1, 0, 0, 0), some (.invokevirtual 84, 3, 112, 725, 0), none, none, some (.ireturn, 1, 0, 0, 0), some (.lconst 0, 1, 0, 0, 0), some (.lstore_n 2, 1, 0, 0, 0), some (.iconst 0, 1, 0, 0, 0), some (.istore 4, 2, 0, 0, 0), none, some (.iload 4, 2, 0, 0, 0), none, some (.aload_n 0, 1, 0, 0, 0), some (.getfield 7, 3, 4, 0, 641)],
  [none, none, some (.iload_n 1, 1, 0, 0, 0), some (.iaload, 1, 0, 0, 0), some (.if_icmp .ge 25, 3, 0, 0, 0), none, none, some (.lload_n 2, 1, 0, 0, 0), some (.aload_n 0, 1, 0, 0, 0), some (.getfield 13, 3, 4, 1, 642), none, none, some (.bipush 40, 2, 0, 0, 0), none, some (.iload_n 1, 1, 0, 0, 0), some (.imul, 1, 0, 0, 0)]]
noncomputable def tb_124_1 : List (List (Option INS)) := [[some (.iload 4, 2, 0, 0, 0), none, some (.iadd, 1, 0, 0, 0), some (.iaload, 1, 0, 0, 0), some (.i2l, 1, 0, 0, 0), some (.ladd, 1, 0, 0, 0), some (.lstore_n 2, 1, 0, 0, 0), some (.iinc 4 1, 3, 0, 0, 0), none, none, some (.goto (-30), 3, 0, 0, 0), none, none, some (.aload_n 0, 1, 0, 0, 0), some (.lload_n 2, 1, 0, 0, 0), some (.aload_n 0, 1, 0, 0, 0)],
  [some (.getfield 7, 3, 4, 0, 641), none, none, some (.iload_n 1, 1, 0, 0, 0), some (.iaload, 1, 0, 0, 0), some (.i2l, 1, 0, 0, 0), some (.ldiv, 1, 0, 0, 0), some (.l2i, 1, 0, 0, 0), some (.iconst 1, 1, 0, 0, 0), some (.invokevirtual 96, 3, 113, 741, 0), none, none, some (.ireturn, 1, 0, 0, 0)]]
noncomputable def tb_124 : List (List (Option INS)) := tb_124_0 ++ (tb_124_1)
noncomputable def tb_125 : List (List (Option INS)) := [[some (.iload_n 1, 1, 0, 0, 0), some (.invokestatic 99, 3, 116, 765, 0), none, none, some (.ifCond .eq 9, 3, 0, 0, 0), none, none, some (.iload_n 2, 1, 0, 0, 0), some (.bipush 60, 2, 0, 0, 0), none, some (.if_icmp .le 5, 3, 0, 0, 0), none, none, some (.iconst (-1), 1, 0, 0, 0), some (.ireturn, 1, 0, 0, 0), some (.iload_n 2, 1, 0, 0, 0)],
  [some (.ifCond .ge 9, 3, 0, 0, 0), none, none, some (.aload_n 0, 1, 0, 0, 0), some (.iconst 5, 1, 0, 0, 0), some (.invokevirtual 84, 3, 112, 725, 0), none, none, some (.ireturn, 1, 0, 0, 0), some (.aload_n 0, 1, 0, 0, 0), some (.getfield 16, 3, 4, 2, 643), none, none, some (.iload_n 1, 1, 0, 0, 0), some (.iload_n 2, 1, 0, 0, 0), some (.iastore, 1, 0, 0, 0)],
  [some (.iconst 0, 1, 0, 0, 0), some (.istore_n 3, 1, 0, 0, 0), some (.iload_n 3, 1, 0, 0, 0), some (.iload_n 2, 1, 0, 0, 0), some (.if_icmp .ge 22, 3, 0, 0, 0), none, none, some (.aload_n 0, 1, 0, 0, 0), some (.getfield 19, 3, 4, 3, 644), none, none, some (.bipush 60, 2, 0, 0, 0), none, some (.iload_n 1, 1, 0, 0, 0), some (.imul, 1, 0, 0, 0), some (.iload_n 3, 1, 0, 0, 0)],
  [some (.iadd, 1, 0, 0, 0), some (.bipush 32, 2, 0, 0, 0), none, some (.iastore, 1, 0, 0, 0), some (.iinc 3 1, 3, 0, 0, 0), none, none, some (.goto (-21), 3, 0, 0, 0), none, none, some (.iload_n 2, 1, 0, 0, 0), some (.ireturn, 1, 0, 0, 0)]]
noncomputable def tb_126_0 : List (List (Option INS)) := [[some (.iload_n 1, 1, 0, 0, 0), some (.invokestatic 99, 3, 116, 765, 0), none, none, some (.ifCond .ne 5, 3, 0, 0, 0), none, none, some (.iconst (-1), 1, 0, 0, 0), some (.ireturn, 1, 0, 0, 0), some (.aload_n 0, 1, 0, 0, 0), some (.getfield 16, 3, 4, 2, 643), none, none, some (.iload_n 1, 1, 0, 0, 0), some (.iaload, 1, 0, 0, 0), some (.ifCond .ge 9, 3, 0, 0, 0)],
  [none, none, some (.aload_n 0, 1, 0, 0, 0), some (.iconst 1, 1, 0, 0, 0), some (.invokevirtual 84, 3, 112, 725, 0), none, none, some (.ireturn, 1, 0, 0, 0), some (.iload_n 2, 1, 0, 0, 0), some (.iconst 0, 1, 0, 0, 0), some (.aload_n 0, 1, 0, 0, 0), some (.getfield 16, 3, 4, 2, 643), none, none, some (.iload_n 1, 1, 0, 0, 0), some (.iaload, 1, 0, 0, 0)],
  [some (.iconst 1, 1, 0, 0, 0), some (.isub, 1, 0, 0, 0), some (.invokestatic 76, 3, 109, 722, 0), none, none, some (.ifCond .ne 9, 3, 0, 0, 0), none, none, some (.aload_n 0, 1, 0, 0, 0), some (.iconst 2, 1, 0, 0, 0), some (.invokevirtual 84, 3, 112, 725, 0), none, none, some (.ireturn, 1, 0, 0, 0), some (.aload_n 0, 1, 0, 0, 0), some (.getfield 19, 3, 4, 3, 644)],
  [none, none, some (.bipush 60, 2, 0, 0, 0), none, some (.iload_n 1, 1, 0, 0, 0), some (.imul, 1, 0, 0, 0), some (.iload_n 2, 1, 0, 0, 0), some (.iadd, 1, 0, 0, 0), some (.iaload, 1, 0, 0, 0), some (.istore 4, 2, 0, 0, 0), none, some (.aload_n 0, 1, 0, 0, 0), some (.getfield 19, 3, 4, 3, 644), none, none, some (.bipush 60, 2, 0, 0, 0)]]
noncomputable def tb_126_1 : List (List (Option INS)) := [[none, some (.iload_n 1, 1, 0, 0, 0), some (.imul, 1, 0, 0, 0), some (.iload_n 2, 1, 0, 0, 0), some (.iadd, 1, 0, 0, 0), some (.iload_n 3, 1, 0, 0, 0), some (.bipush 24, 2, 0, 0, 0), none, some (.ishl, 1, 0, 0, 0), some (.bipush 24, 2, 0, 0, 0), none, some (.ishr, 1, 0, 0, 0), some (.iastore, 1, 0, 0, 0), some (.iload 4, 2, 0, 0, 0), none, some (.sipush 1000, 3, 0, 0, 0)],
  [none, none, some (.iadd, 1, 0, 0, 0), some (.ireturn, 1, 0, 0, 0)]]
noncomputable def tb_126 : List (List (Option INS)) := tb_126_0 ++ (tb_126_1)
noncomputable def tb_127_0 : List (List (Option INS)) := [[some (.iload_n 0, 1, 0, 0, 0), some (.lookupswitch 71 #[(98, 61), (99, 69), (108, 63), (112, 59), (115, 67), (119, 65)], 59, 0, 0, 0), none, none, none, none, none, none, none, none, none, none, none, none, none, none],
  [none, none, none, none, none, none, none, none, none, none, none, none, none, none, none, none],
  [none, none, none, none, none, none, none, none, none, none, none, none, none, none, none, none],
  [none, none, none, none, none, none, none, none, none, none, none, none, some (.iconst 0, 1, 0, 0, 0), some (.ireturn, 1, 0, 0, 0), some (.iconst 1, 1, 0, 0, 0), some (.ireturn, 1, 0, 0, 0)]]
noncomputable def tb_127_1 : List (List (Option INS)) := [[some (.iconst 2, 1, 0, 0, 0), some (.ireturn, 1, 0, 0, 0), some (.iconst 3, 1, 0, 0, 0), some (.ireturn, 1, 0, 0, 0), some (.iconst 4, 1, 0, 0, 0), some (.ireturn, 1, 0, 0, 0), some (.iconst 5, 1, 0, 0, 0), some (.ireturn, 1, 0, 0, 0), some (.iconst (-1), 1, 0, 0, 0), some (.ireturn, 1, 0, 0, 0)]]
noncomputable def tb_127 : List (List (Option INS)) := tb_127_0 ++ (tb_127_1)
noncomputable def tb_128_0 : List (List (Option INS)) := [[some (.bipush 60, 2, 0, 0, 0), none, some (.iload_n 1, 1, 0, 0, 0), some (.imul, 1, 0, 0, 0), some (.istore_n 2, 1, 0, 0, 0), some (.aload_n 0, 1, 0, 0, 0), some (.getfield 16, 3, 4, 2, 643), none, none, some (.iload_n 1, 1, 0, 0, 0), some (.iaload, 1, 0, 0, 0), some (.istore_n 3, 1, 0, 0, 0), some (.iconst 0, 1, 0, 0, 0), some (.istore 4, 2, 0, 0, 0), none, some (.aload_n 0, 1, 0, 0, 0)],
  [some (.iconst 0, 1, 0, 0, 0), some (.putfield 102, 3, 4, 17, 658), none, none, some (.iconst 0, 1, 0, 0, 0), some (.istore 5, 2, 0, 0, 0), none, some (.iload 5, 2, 0, 0, 0), none, some (.bipush 25, 2, 0, 0, 0), none, some (.if_icmp .ge 17, 3, 0, 0, 0), none, none, some (.aload_n 0, 1, 0, 0, 0), some (.getfield 51, 3, 4, 19, 660)],
  [none, none, some (.iload 5, 2, 0, 0, 0), none, some (.iconst 0, 1, 0, 0, 0), some (.iastore, 1, 0, 0, 0), some (.iinc 5 1, 3, 0, 0, 0), none, none, some (.goto (-18), 3, 0, 0, 0), none, none, some (.iload 4, 2, 0, 0, 0), none, some (.iload_n 3, 1, 0, 0, 0), some (.if_icmp .ge 224, 3, 0, 0, 0)],
  [none, none, some (.aload_n 0, 1, 0, 0, 0), some (.getfield 19, 3, 4, 3, 644), none, none, some (.iload_n 2, 1, 0, 0, 0), some (.iload 4, 2, 0, 0, 0), none, some (.iadd, 1, 0, 0, 0), some (.iaload, 1, 0, 0, 0), some (.bipush 32, 2, 0, 0, 0), none, some (.if_icmp .ne 9, 3, 0, 0, 0), none, none]]
noncomputable def tb_128_1 : List (List (Option INS)) := [[some (.iinc 4 1, 3, 0, 0, 0), none, none, some (.goto (-23), 3, 0, 0, 0), none, none, some (.aload_n 0, 1, 0, 0, 0), some (.getfield 102, 3, 4, 17, 658), none, none, some (.bipush 6, 2, 0, 0, 0), none, some (.if_icmp .eq 18, 3, 0, 0, 0), none, none, some (.aload_n 0, 1, 0, 0, 0)],
  [some (.getfield 19, 3, 4, 3, 644), none, none, some (.iload_n 2, 1, 0, 0, 0), some (.iload 4, 2, 0, 0, 0), none, some (.iadd, 1, 0, 0, 0), some (.iaload, 1, 0, 0, 0), some (.invokestatic 105, 3, 127, 780, 0), none, none, some (.ifCond .ge 6, 3, 0, 0, 0), none, none, some (.iload 4, 2, 0, 0, 0), none],
  [some (.ireturn, 1, 0, 0, 0), some (.iconst 1, 1, 0, 0, 0), some (.istore 5, 2, 0, 0, 0), none, some (.iload 5, 2, 0, 0, 0), none, some (.iconst 5, 1, 0, 0, 0), some (.if_icmp .ge 57, 3, 0, 0, 0), none, none, some (.iload 4, 2, 0, 0, 0), none, some (.iload 5, 2, 0, 0, 0), none, some (.iadd, 1, 0, 0, 0), some (.iload_n 3, 1, 0, 0, 0)],
  [some (.if_icmp .eq 36, 3, 0, 0, 0), none, none, some (.aload_n 0, 1, 0, 0, 0), some (.getfield 19, 3, 4, 3, 644), none, none, some (.iload_n 2, 1, 0, 0, 0), some (.iload 4, 2, 0, 0, 0), none, some (.iadd, 1, 0, 0, 0), some (.iload 5, 2, 0, 0, 0), none, some (.iadd, 1, 0, 0, 0), some (.iaload, 1, 0, 0, 0), some (.bipush 48, 2, 0, 0, 0)]]
noncomputable def tb_128_2 : List (List (Option INS)) := [[none, some (.iload 5, 2, 0, 0, 0), none, some (.iconst 4, 1, 0, 0, 0), some (.if_icmp .ne 8, 3, 0, 0, 0), none, none, some (.bipush 49, 2, 0, 0, 0), none, some (.goto 5, 3, 0, 0, 0), none, none, some (.bipush 57, 2, 0, 0, 0), none, some (.invokestatic 76, 3, 109, 722, 0), none],
  [none, some (.ifCond .ne 9, 3, 0, 0, 0), none, none, some (.iload 4, 2, 0, 0, 0), none, some (.iload 5, 2, 0, 0, 0), none, some (.iadd, 1, 0, 0, 0), some (.ireturn, 1, 0, 0, 0), some (.iinc 5 1, 3, 0, 0, 0), none, none, some (.goto (-57), 3, 0, 0, 0), none, none],
  [some (.aload_n 0, 1, 0, 0, 0), some (.getfield 48, 3, 4, 18, 659), none, none, some (.aload_n 0, 1, 0, 0, 0), some (.getfield 102, 3, 4, 17, 658), none, none, some (.aload_n 0, 1, 0, 0, 0), some (.getfield 19, 3, 4, 3, 644), none, none, some (.iload_n 2, 1, 0, 0, 0), some (.iload 4, 2, 0, 0, 0), none, some (.iadd, 1, 0, 0, 0)],
  [some (.iaload, 1, 0, 0, 0), some (.invokestatic 105, 3, 127, 780, 0), none, none, some (.iastore, 1, 0, 0, 0), some (.iconst 0, 1, 0, 0, 0), some (.istore 5, 2, 0, 0, 0), none, some (.iload 5, 2, 0, 0, 0), none, some (.iconst 3, 1, 0, 0, 0), some (.if_icmp .ge 42, 3, 0, 0, 0), none, none, some (.aload_n 0, 1, 0, 0, 0), some (.getfield 51, 3, 4, 19, 660)]]
noncomputable def tb_128_3 : List (List (Option INS)) := [[none, none, some (.iconst 1, 1, 0, 0, 0), some (.iconst 3, 1, 0, 0, 0), some (.aload_n 0, 1, 0, 0, 0), some (.getfield 102, 3, 4, 17, 658), none, none, some (.imul, 1, 0, 0, 0), some (.iadd, 1, 0, 0, 0), some (.iload 5, 2, 0, 0, 0), none, some (.iadd, 1, 0, 0, 0), some (.aload_n 0, 1, 0, 0, 0), some (.getfield 19, 3, 4, 3, 644), none],
  [none, some (.iload_n 2, 1, 0, 0, 0), some (.iload 4, 2, 0, 0, 0), none, some (.iadd, 1, 0, 0, 0), some (.iconst 1, 1, 0, 0, 0), some (.iadd, 1, 0, 0, 0), some (.iload 5, 2, 0, 0, 0), none, some (.iadd, 1, 0, 0, 0), some (.iaload, 1, 0, 0, 0), some (.bipush 48, 2, 0, 0, 0), none, some (.isub, 1, 0, 0, 0), some (.iastore, 1, 0, 0, 0), some (.iinc 5 1, 3, 0, 0, 0)],
  [none, none, some (.goto (-42), 3, 0, 0, 0), none, none, some (.aload_n 0, 1, 0, 0, 0), some (.getfield 51, 3, 4, 19, 660), none, none, some (.bipush 19, 2, 0, 0, 0), none, some (.aload_n 0, 1, 0, 0, 0), some (.getfield 102, 3, 4, 17, 658), none, none, some (.iadd, 1, 0, 0, 0)],
  [some (.aload_n 0, 1, 0, 0, 0), some (.getfield 19, 3, 4, 3, 644), none, none, some (.iload_n 2, 1, 0, 0, 0), some (.iload 4, 2, 0, 0, 0), none, some (.iadd, 1, 0, 0, 0), some (.iconst 4, 1, 0, 0, 0), some (.iadd, 1, 0, 0, 0), some (.iaload, 1, 0, 0, 0), some (.bipush 48, 2, 0, 0, 0), none, some (.isub, 1, 0, 0, 0), some (.iastore, 1, 0, 0, 0), some (.aload_n 0, 1, 0, 0, 0)]]
noncomputable def tb_128_4 : List (List (Option INS)) := [[some (.dup, 1, 0, 0, 0), some (.getfield 102, 3, 4, 17, 658), none, none, some (.iconst 1, 1, 0, 0, 0), some (.iadd, 1, 0, 0, 0), some (.putfield 102, 3, 4, 17, 658), none, none, some (.iinc 4 5, 3, 0, 0, 0), none, none, some (.goto (-224), 3, 0, 0, 0), none, none, some (.aload_n 0, 1, 0, 0, 0)],
  [some (.getfield 102, 3, 4, 17, 658), none, none, some (.ifCond .ne 7, 3, 0, 0, 0), none, none, some (.iload_n 3, 1, 0, 0, 0), some (.goto 5, 3, 0, 0, 0), none, none, some (.bipush (-9), 2, 0, 0, 0), none, some (.ireturn, 1, 0, 0, 0)]]
noncomputable def tb_128 : List (List (Option INS)) := tb_128_0 ++ (tb_128_1 ++ (tb_128_2 ++ (tb_128_3 ++ (tb_128_4))))
noncomputable def tb_129 : List (List (Option INS)) := [[some (.iload_n 1, 1, 0, 0, 0), some (.invokestatic 99, 3, 116, 765, 0), none, none, some (.ifCond .ne 5, 3, 0, 0, 0), none, none, some (.iconst (-1), 1, 0, 0, 0), some (.ireturn, 1, 0, 0, 0), some (.aload_n 0, 1, 0, 0, 0), some (.getfield 16, 3, 4, 2, 643), none, none, some (.iload_n 1, 1, 0, 0, 0), some (.iaload, 1, 0, 0, 0), some (.ifCond .ge 11, 3, 0, 0, 0)],
  [none, none, some (.aload_n 0, 1, 0, 0, 0), some (.iconst 1, 1, 0, 0, 0), some (.invokevirtual 84, 3, 112, 725, 0), none, none, some (.goto 8, 3, 0, 0, 0), none, none, some (.aload_n 0, 1, 0, 0, 0), some (.iload_n 1, 1, 0, 0, 0), some (.invokevirtual 108, 3, 128, 776, 0), none, none, some (.ireturn, 1, 0, 0, 0)]]
noncomputable def tb_130_0 : List (List (Option INS)) := [[some (.iload_n 1, 1, 0, 0, 0), some (.invokestatic 99, 3, 116, 765, 0), none, none, some (.ifCond .ne 5, 3, 0, 0, 0), none, none, some (.iconst (-1), 1, 0, 0, 0), some (.ireturn, 1, 0, 0, 0), some (.aload_n 0, 1, 0, 0, 0), some (.getfield 16, 3, 4, 2, 643), none, none, some (.iload_n 1, 1, 0, 0, 0), some (.iaload, 1, 0, 0, 0), some (.ifCond .ge 9, 3, 0, 0, 0)],
  [none, none, some (.aload_n 0, 1, 0, 0, 0), some (.iconst 1, 1, 0, 0, 0), some (.invokevirtual 84, 3, 112, 725, 0), none, none, some (.ireturn, 1, 0, 0, 0), some (.aload_n 0, 1, 0, 0, 0), some (.iload_n 1, 1, 0, 0, 0), some (.invokevirtual 108, 3, 128, 776, 0), none, none, some (.bipush (-9), 2, 0, 0, 0), none, some (.if_icmp .eq 6, 3, 0, 0, 0)],
  [none, none, some (.bipush (-4), 2, 0, 0, 0), none, some (.ireturn, 1, 0, 0, 0), some (.aload_n 0, 1, 0, 0, 0), some (.aload_n 0, 1, 0, 0, 0), some (.getfield 102, 3, 4, 17, 658), none, none, some (.putfield 73, 3, 4, 4, 645), none, none, some (.aload_n 0, 1, 0, 0, 0), some (.getfield 48, 3, 4, 18, 659), none],
  [none, some (.iconst 0, 1, 0, 0, 0), some (.aload_n 0, 1, 0, 0, 0), some (.getfield 22, 3, 4, 5, 646), none, none, some (.iconst 0, 1, 0, 0, 0), some (.bipush 6, 2, 0, 0, 0), none, some (.invokestatic 111, 3, 111, 787, 0), none, none, some (.aload_n 0, 1, 0, 0, 0), some (.getfield 51, 3, 4, 19, 660), none, none]]
noncomputable def tb_130_1 : List (List (Option INS)) := [[some (.iconst 0, 1, 0, 0, 0), some (.aload_n 0, 1, 0, 0, 0), some (.getfield 25, 3, 4, 6, 647), none, none, some (.iconst 0, 1, 0, 0, 0), some (.bipush 25, 2, 0, 0, 0), none, some (.invokestatic 111, 3, 111, 787, 0), none, none, some (.aload_n 0, 1, 0, 0, 0), some (.iconst 0, 1, 0, 0, 0), some (.putfield 115, 3, 4, 9, 650), none, none],
  [some (.iconst 0, 1, 0, 0, 0), some (.istore_n 2, 1, 0, 0, 0), some (.iload_n 2, 1, 0, 0, 0), some (.iconst 3, 1, 0, 0, 0), some (.if_icmp .ge 16, 3, 0, 0, 0), none, none, some (.aload_n 0, 1, 0, 0, 0), some (.getfield 37, 3, 4, 11, 652), none, none, some (.iload_n 2, 1, 0, 0, 0), some (.iconst 0, 1, 0, 0, 0), some (.bastore, 1, 0, 0, 0), some (.iinc 2 1, 3, 0, 0, 0), none],
  [none, some (.goto (-15), 3, 0, 0, 0), none, none, some (.aload_n 0, 1, 0, 0, 0), some (.getfield 73, 3, 4, 4, 645), none, none, some (.ireturn, 1, 0, 0, 0)]]
noncomputable def tb_130 : List (List (Option INS)) := tb_130_0 ++ (tb_130_1)
noncomputable def tb_131 : List (List (Option INS)) := [[some (.iload_n 2, 1, 0, 0, 0), some (.iconst 1, 1, 0, 0, 0), some (.isub, 1, 0, 0, 0), some (.iconst 2, 1, 0, 0, 0), some (.idiv, 1, 0, 0, 0), some (.istore_n 3, 1, 0, 0, 0), some (.aload_n 0, 1, 0, 0, 0), some (.getfield 22, 3, 4, 5, 646), none, none, some (.iload_n 1, 1, 0, 0, 0), some (.iaload, 1, 0, 0, 0), some (.iconst 3, 1, 0, 0, 0), some (.if_icmp .ne 11, 3, 0, 0, 0), none, none],
  [some (.iload_n 3, 1, 0, 0, 0), some (.iconst 1, 1, 0, 0, 0), some (.iadd, 1, 0, 0, 0), some (.iconst 3, 1, 0, 0, 0), some (.irem, 1, 0, 0, 0), some (.goto 4, 3, 0, 0, 0), none, none, some (.iload_n 3, 1, 0, 0, 0), some (.ireturn, 1, 0, 0, 0)]]
noncomputable def tb_132_0 : List (List (Option INS)) := [[some (.iload_n 2, 1, 0, 0, 0), some (.iconst 2, 1, 0, 0, 0), some (.irem, 1, 0, 0, 0), some (.iconst 1, 1, 0, 0, 0), some (.if_icmp .ne 7, 3, 0, 0, 0), none, none, some (.iconst 1, 1, 0, 0, 0), some (.goto 4, 3, 0, 0, 0), none, none, some (.iconst (-1), 1, 0, 0, 0), some (.istore 4, 2, 0, 0, 0), none, some (.aload_n 0, 1, 0, 0, 0), some (.getfield 22, 3, 4, 5, 646)],
  [none, none, some (.iload_n 1, 1, 0, 0, 0), some (.iaload, 1, 0, 0, 0), some (.tableswitch 61 1 5 #[36, 57, 61, 41, 57], 36, 0, 0, 0), none, none, none, none, none, none, none, none, none, none, none],
  [none, none, none, none, none, none, none, none, none, none, none, none, none, none, none, none],
  [none, none, none, none, none, none, none, none, some (.iconst 2, 1, 0, 0, 0), some (.iload 4, 2, 0, 0, 0), none, some (.imul, 1, 0, 0, 0), some (.ireturn, 1, 0, 0, 0), some (.iload_n 3, 1, 0, 0, 0), some (.iconst 2, 1, 0, 0, 0), some (.irem, 1, 0, 0, 0)]]
noncomputable def tb_132_1 : List (List (Option INS)) := [[some (.ifCond .ne 10, 3, 0, 0, 0), none, none, some (.iconst 2, 1, 0, 0, 0), some (.iload 4, 2, 0, 0, 0), none, some (.imul, 1, 0, 0, 0), some (.goto 5, 3, 0, 0, 0), none, none, some (.iload 4, 2, 0, 0, 0), none, some (.ireturn, 1, 0, 0, 0), some (.iload 4, 2, 0, 0, 0), none, some (.ineg, 1, 0, 0, 0)],
  [some (.ireturn, 1, 0, 0, 0), some (.iload 4, 2, 0, 0, 0), none, some (.ireturn, 1, 0, 0, 0)]]
noncomputable def tb_132 : List (List (Option INS)) := tb_132_0 ++ (tb_132_1)
noncomputable def tb_133 : List (List (Option INS)) := [[some (.iload_n 3, 1, 0, 0, 0), some (.ifCond .ne 19, 3, 0, 0, 0), none, none, some (.aload_n 0, 1, 0, 0, 0), some (.getfield 22, 3, 4, 5, 646), none, none, some (.iload_n 2, 1, 0, 0, 0), some (.iaload, 1, 0, 0, 0), some (.iconst 5, 1, 0, 0, 0), some (.if_icmp .ne 7, 3, 0, 0, 0), none, none, some (.iconst 1, 1, 0, 0, 0), some (.goto 4, 3, 0, 0, 0)],
  [none, none, some (.iconst 0, 1, 0, 0, 0), some (.ireturn, 1, 1, 0, 0), some (.aload_n 1, 1, 0, 0, 0), some (.iconst 1, 1, 0, 0, 0), some (.iconst 3, 1, 0, 0, 0), some (.iload_n 2, 1, 0, 0, 0), some (.imul, 1, 0, 0, 0), some (.iadd, 1, 0, 0, 0), some (.aload_n 0, 1, 0, 0, 0), some (.iload_n 2, 1, 0, 0, 0), some (.iload_n 3, 1, 0, 0, 0), some (.invokevirtual 118, 3, 131, 821, 0), none, none],
  [some (.iadd, 1, 0, 0, 0), some (.iaload, 1, 0, 0, 0), some (.aload_n 0, 1, 0, 0, 0), some (.iload_n 2, 1, 0, 0, 0), some (.iload_n 3, 1, 0, 0, 0), some (.aload_n 1, 1, 0, 0, 0), some (.iconst 0, 1, 0, 0, 0), some (.iaload, 1, 0, 0, 0), some (.invokevirtual 121, 3, 132, 825, 0), none, none, some (.iadd, 1, 0, 0, 0), some (.iconst 0, 1, 0, 0, 0), some (.bipush 9, 2, 0, 0, 0), none, some (.invokestatic 76, 3, 109, 722, 0)],
  [none, none, some (.ireturn, 1, 1, 0, 0)]]
noncomputable def tb_134_0 : List (List (Option INS)) := [[some (.aload_n 0, 1, 0, 0, 0), some (.aload_n 1, 1, 0, 0, 0), some (.iload_n 2, 1, 0, 0, 0), some (.iload_n 3, 1, 0, 0, 0), some (.invokevirtual 125, 3, 133, 817, 0), none, none, some (.istore 4, 2, 0, 0, 0), none, some (.iload 4, 2, 0, 0, 0), none, some (.ifCond .eq 47, 3, 0, 0, 0), none, none, some (.iload_n 3, 1, 0, 0, 0), some (.ifCond .le 29, 3, 0, 0, 0)],
  [none, none, some (.aload_n 1, 1, 0, 0, 0), some (.iconst 1, 1, 0, 0, 0), some (.iconst 3, 1, 0, 0, 0), some (.iload_n 2, 1, 0, 0, 0), some (.imul, 1, 0, 0, 0), some (.iadd, 1, 0, 0, 0), some (.aload_n 0, 1, 0, 0, 0), some (.iload_n 2, 1, 0, 0, 0), some (.iload_n 3, 1, 0, 0, 0), some (.invokevirtual 118, 3, 131, 821, 0), none, none, some (.iadd, 1, 0, 0, 0), some (.dup2, 1, 0, 0, 0)],
  [some (.iaload, 1, 0, 0, 0), some (.aload_n 0, 1, 0, 0, 0), some (.iload_n 2, 1, 0, 0, 0), some (.iload_n 3, 1, 0, 0, 0), some (.aload_n 1, 1, 0, 0, 0), some (.iconst 0, 1, 0, 0, 0), some (.iaload, 1, 0, 0, 0), some (.invokevirtual 121, 3, 132, 825, 0), none, none, some (.iadd, 1, 0, 0, 0), some (.iastore, 1, 0, 0, 0), some (.aload_n 1, 1, 0, 0, 0), some (.bipush 19, 2, 0, 0, 0), none, some (.iload_n 2, 1, 0, 0, 0)],
  [some (.iadd, 1, 0, 0, 0), some (.iconst 1, 1, 0, 0, 0), some (.aload_n 1, 1, 0, 0, 0), some (.bipush 19, 2, 0, 0, 0), none, some (.iload_n 2, 1, 0, 0, 0), some (.iadd, 1, 0, 0, 0), some (.iaload, 1, 0, 0, 0), some (.isub, 1, 0, 0, 0), some (.iastore, 1, 0, 0, 0), some (.aload_n 1, 1, 0, 0, 0), some (.iconst 0, 1, 0, 0, 0), some (.dup2, 1, 0, 0, 0), some (.iaload, 1, 0, 0, 0), some (.iconst 1, 1, 0, 0, 0), some (.iadd, 1, 0, 0, 0)]]
noncomputable def tb_134_1 : List (List (Option INS)) := [[some (.iastore, 1, 0, 0, 0), some (.iload 4, 2, 0, 0, 0), none, some (.ireturn, 1, 1, 0, 0)]]
noncomputable def tb_134 : List (List (Option INS)) := tb_134_0 ++ (tb_134_1)
noncomputable def tb_135 : List (List (Option INS)) := [[some (.iconst 1, 1, 0, 0, 0), some (.iconst 3, 1, 0, 0, 0), some (.iload_n 1, 1, 0, 0, 0), some (.imul, 1, 0, 0, 0), some (.iadd, 1, 0, 0, 0), some (.istore_n 2, 1, 0, 0, 0), some (.aload_n 0, 1, 0, 0, 0), some (.iload_n 2, 1, 0, 0, 0), some (.iaload, 1, 0, 0, 0), some (.aload_n 0, 1, 0, 0, 0), some (.iload_n 2, 1, 0, 0, 0), some (.iconst 1, 1, 0, 0, 0), some (.iadd, 1, 0, 0, 0), some (.iaload, 1, 0, 0, 0), some (.iadd, 1, 0, 0, 0), some (.aload_n 0, 1, 0, 0, 0)],
  [some (.iload_n 2, 1, 0, 0, 0), some (.iconst 2, 1, 0, 0, 0), some (.iadd, 1, 0, 0, 0), some (.iaload, 1, 0, 0, 0), some (.iadd, 1, 0, 0, 0), some (.ireturn, 1, 0, 0, 0)]]
noncomputable def tb_136 : List (List (Option INS)) := [[some (.iconst 1, 1, 0, 0, 0), some (.iconst 3, 1, 0, 0, 0), some (.iload_n 1, 1, 0, 0, 0), some (.imul, 1, 0, 0, 0), some (.iadd, 1, 0, 0, 0), some (.istore_n 2, 1, 0, 0, 0), some (.bipush 100, 2, 0, 0, 0), none, some (.aload_n 0, 1, 0, 0, 0), some (.iload_n 2, 1, 0, 0, 0), some (.iaload, 1, 0, 0, 0), some (.imul, 1, 0, 0, 0), some (.bipush 10, 2, 0, 0, 0), none, some (.aload_n 0, 1, 0, 0, 0), some (.iload_n 2, 1, 0, 0, 0)],
  [some (.iconst 1, 1, 0, 0, 0), some (.iadd, 1, 0, 0, 0), some (.iaload, 1, 0, 0, 0), some (.imul, 1, 0, 0, 0), some (.iadd, 1, 0, 0, 0), some (.aload_n 0, 1, 0, 0, 0), some (.iload_n 2, 1, 0, 0, 0), some (.iconst 2, 1, 0, 0, 0), some (.iadd, 1, 0, 0, 0), some (.iaload, 1, 0, 0, 0), some (.iadd, 1, 0, 0, 0), some (.ireturn, 1, 0, 0, 0)]]
noncomputable def tb_137 : List (List (Option INS)) := [[some (.aload_n 0, 1, 0, 0, 0), some (.getfield 22, 3, 4, 5, 646), none, none, some (.iload_n 1, 1, 0, 0, 0), some (.iaload, 1, 0, 0, 0), some (.iload_n 2, 1, 0, 0, 0), some (.if_icmp .eq 33, 3, 0, 0, 0), none, none, some (.iload_n 2, 1, 0, 0, 0), some (.iconst 1, 1, 0, 0, 0), some (.if_icmp .ne 13, 3, 0, 0, 0), none, none, some (.aload_n 0, 1, 0, 0, 0)],
  [some (.getfield 22, 3, 4, 5, 646), none, none, some (.iload_n 1, 1, 0, 0, 0), some (.iaload, 1, 0, 0, 0), some (.iconst 4, 1, 0, 0, 0), some (.if_icmp .eq 18, 3, 0, 0, 0), none, none, some (.iload_n 2, 1, 0, 0, 0), some (.iconst 2, 1, 0, 0, 0), some (.if_icmp .ne 17, 3, 0, 0, 0), none, none, some (.aload_n 0, 1, 0, 0, 0), some (.getfield 22, 3, 4, 5, 646)],
  [none, none, some (.iload_n 1, 1, 0, 0, 0), some (.iaload, 1, 0, 0, 0), some (.iconst 5, 1, 0, 0, 0), some (.if_icmp .ne 7, 3, 0, 0, 0), none, none, some (.iconst 1, 1, 0, 0, 0), some (.goto 4, 3, 0, 0, 0), none, none, some (.iconst 0, 1, 0, 0, 0), some (.ireturn, 1, 1, 0, 0)]]
noncomputable def tb_138 : List (List (Option INS)) := [[some (.aload_n 0, 1, 0, 0, 0), some (.getfield 25, 3, 4, 6, 647), none, none, some (.iload_n 1, 1, 0, 0, 0), some (.invokestatic 129, 3, 135, 806, 0), none, none, some (.aload_n 0, 1, 0, 0, 0), some (.iload_n 1, 1, 0, 0, 0), some (.iconst 1, 1, 0, 0, 0), some (.invokevirtual 133, 3, 137, 809, 0), none, none, some (.ifCond .eq 7, 3, 0, 0, 0), none],
  [none, some (.iconst 1, 1, 0, 0, 0), some (.goto 4, 3, 0, 0, 0), none, none, some (.iconst 0, 1, 0, 0, 0), some (.iadd, 1, 0, 0, 0), some (.ireturn, 1, 0, 0, 0)]]
noncomputable def tb_139 : List (List (Option INS)) := [[some (.iconst 0, 1, 0, 0, 0), some (.istore_n 2, 1, 0, 0, 0), some (.iconst 0, 1, 0, 0, 0), some (.istore_n 3, 1, 0, 0, 0), some (.iload_n 3, 1, 0, 0, 0), some (.bipush 7, 2, 0, 0, 0), none, some (.if_icmp .ge 32, 3, 0, 0, 0), none, none, some (.iload_n 2, 1, 0, 0, 0), some (.aload_n 0, 1, 0, 0, 0), some (.aload_n 0, 1, 0, 0, 0), some (.getfield 25, 3, 4, 6, 647), none, none],
  [some (.iload_n 1, 1, 0, 0, 0), some (.iload_n 3, 1, 0, 0, 0), some (.invokevirtual 125, 3, 133, 817, 0), none, none, some (.ifCond .eq 9, 3, 0, 0, 0), none, none, some (.iconst 1, 1, 0, 0, 0), some (.iload_n 3, 1, 0, 0, 0), some (.ishl, 1, 0, 0, 0), some (.goto 4, 3, 0, 0, 0), none, none, some (.iconst 0, 1, 0, 0, 0), some (.ior, 1, 0, 0, 0)],
  [some (.istore_n 2, 1, 0, 0, 0), some (.iinc 3 1, 3, 0, 0, 0), none, none, some (.goto (-32), 3, 0, 0, 0), none, none, some (.iload_n 2, 1, 0, 0, 0), some (.ireturn, 1, 0, 0, 0)]]
noncomputable def tb_140_0 : List (List (Option INS)) := [[some (.iload_n 2, 1, 0, 0, 0), some (.tableswitch 72 0 6 #[43, 72, 72, 72, 50, 60, 66], 43, 0, 0, 0), none, none, none, none, none, none, none, none, none, none, none, none, none, none],
  [none, none, none, none, none, none, none, none, none, none, none, none, none, none, none, none],
  [none, none, none, none, none, none, none, none, none, none, none, none, some (.aload_n 0, 1, 0, 0, 0), some (.getfield 22, 3, 4, 5, 646), none, none],
  [some (.iload_n 1, 1, 0, 0, 0), some (.iaload, 1, 0, 0, 0), some (.ireturn, 1, 0, 0, 0), some (.aload_n 0, 1, 0, 0, 0), some (.getfield 25, 3, 4, 6, 647), none, none, some (.bipush 19, 2, 0, 0, 0), none, some (.iload_n 1, 1, 0, 0, 0), some (.iadd, 1, 0, 0, 0), some (.iaload, 1, 0, 0, 0), some (.ireturn, 1, 0, 0, 0), some (.aload_n 0, 1, 0, 0, 0), some (.iload_n 1, 1, 0, 0, 0), some (.invokevirtual 137, 3, 138, 802, 0)]]
noncomputable def tb_140_1 : List (List (Option INS)) := [[none, none, some (.ireturn, 1, 0, 0, 0), some (.aload_n 0, 1, 0, 0, 0), some (.iload_n 1, 1, 0, 0, 0), some (.invokevirtual 140, 3, 139, 813, 0), none, none, some (.ireturn, 1, 0, 0, 0), some (.aload_n 0, 1, 0, 0, 0), some (.getfield 25, 3, 4, 6, 647), none, none, some (.iconst 1, 1, 0, 0, 0), some (.iconst 3, 1, 0, 0, 0), some (.iload_n 1, 1, 0, 0, 0)],
  [some (.imul, 1, 0, 0, 0), some (.iadd, 1, 0, 0, 0), some (.iload_n 2, 1, 0, 0, 0), some (.iadd, 1, 0, 0, 0), some (.iconst 1, 1, 0, 0, 0), some (.isub, 1, 0, 0, 0), some (.iaload, 1, 0, 0, 0), some (.ireturn, 1, 0, 0, 0)]]
noncomputable def tb_140 : List (List (Option INS)) := tb_140_0 ++ (tb_140_1)
noncomputable def tb_141 : List (List (Option INS)) := [[some (.aload_n 0, 1, 0, 0, 0), some (.iload_n 1, 1, 0, 0, 0), some (.invokevirtual 143, 3, 114, 794, 0), none, none, some (.ifCond .eq 27, 3, 0, 0, 0), none, none, some (.iload_n 2, 1, 0, 0, 0), some (.iconst 0, 1, 0, 0, 0), some (.bipush 6, 2, 0, 0, 0), none, some (.invokestatic 76, 3, 109, 722, 0), none, none, some (.ifCond .eq 17, 3, 0, 0, 0)],
  [none, none, some (.aload_n 0, 1, 0, 0, 0), some (.aload_n 0, 1, 0, 0, 0), some (.iload_n 1, 1, 0, 0, 0), some (.iload_n 2, 1, 0, 0, 0), some (.invokevirtual 146, 3, 140, 798, 0), none, none, some (.iconst 1, 1, 0, 0, 0), some (.invokevirtual 96, 3, 113, 741, 0), none, none, some (.goto 4, 3, 0, 0, 0), none, none],
  [some (.iconst (-1), 1, 0, 0, 0), some (.ireturn, 1, 0, 0, 0)]]
noncomputable def tb_142 : List (List (Option INS)) := [[some (.iconst 0, 1, 0, 0, 0), some (.istore_n 2, 1, 0, 0, 0), some (.iconst 0, 1, 0, 0, 0), some (.istore_n 3, 1, 0, 0, 0), some (.iload_n 3, 1, 0, 0, 0), some (.aload_n 0, 1, 0, 0, 0), some (.getfield 73, 3, 4, 4, 645), none, none, some (.if_icmp .ge 43, 3, 0, 0, 0), none, none, some (.iload_n 2, 1, 0, 0, 0), some (.iload_n 3, 1, 0, 0, 0), some (.iload_n 1, 1, 0, 0, 0), some (.if_icmp .eq 28, 3, 0, 0, 0)],
  [none, none, some (.aload_n 0, 1, 0, 0, 0), some (.getfield 25, 3, 4, 6, 647), none, none, some (.bipush 19, 2, 0, 0, 0), none, some (.iload_n 3, 1, 0, 0, 0), some (.iadd, 1, 0, 0, 0), some (.iaload, 1, 0, 0, 0), some (.aload_n 0, 1, 0, 0, 0), some (.getfield 25, 3, 4, 6, 647), none, none, some (.bipush 19, 2, 0, 0, 0)],
  [none, some (.iload_n 1, 1, 0, 0, 0), some (.iadd, 1, 0, 0, 0), some (.iaload, 1, 0, 0, 0), some (.if_icmp .ne 7, 3, 0, 0, 0), none, none, some (.iconst 1, 1, 0, 0, 0), some (.goto 4, 3, 0, 0, 0), none, none, some (.iconst 0, 1, 0, 0, 0), some (.iadd, 1, 0, 0, 0), some (.istore_n 2, 1, 0, 0, 0), some (.iinc 3 1, 3, 0, 0, 0), none],
  [none, some (.goto (-45), 3, 0, 0, 0), none, none, some (.iload_n 2, 1, 0, 0, 0), some (.ireturn, 1, 0, 0, 0)]]
noncomputable def tb_143 : List (List (Option INS)) := [[some (.iconst 0, 1, 0, 0, 0), some (.istore_n 2, 1, 0, 0, 0), some (.iconst 1, 1, 0, 0, 0), some (.istore_n 3, 1, 0, 0, 0), some (.iload_n 3, 1, 0, 0, 0), some (.iconst 3, 1, 0, 0, 0), some (.if_icmp .ge 42, 3, 0, 0, 0), none, none, some (.aload_n 0, 1, 0, 0, 0), some (.getfield 25, 3, 4, 6, 647), none, none, some (.iconst 1, 1, 0, 0, 0), some (.iconst 3, 1, 0, 0, 0), some (.iload_n 1, 1, 0, 0, 0)],
  [some (.imul, 1, 0, 0, 0), some (.iadd, 1, 0, 0, 0), some (.iload_n 3, 1, 0, 0, 0), some (.iadd, 1, 0, 0, 0), some (.iaload, 1, 0, 0, 0), some (.aload_n 0, 1, 0, 0, 0), some (.getfield 25, 3, 4, 6, 647), none, none, some (.iconst 1, 1, 0, 0, 0), some (.iconst 3, 1, 0, 0, 0), some (.iload_n 1, 1, 0, 0, 0), some (.imul, 1, 0, 0, 0), some (.iadd, 1, 0, 0, 0), some (.iload_n 2, 1, 0, 0, 0), some (.iadd, 1, 0, 0, 0)],
  [some (.iaload, 1, 0, 0, 0), some (.if_icmp .ge 7, 3, 0, 0, 0), none, none, some (.iload_n 3, 1, 0, 0, 0), some (.goto 4, 3, 0, 0, 0), none, none, some (.iload_n 2, 1, 0, 0, 0), some (.istore_n 2, 1, 0, 0, 0), some (.iinc 3 1, 3, 0, 0, 0), none, none, some (.goto (-41), 3, 0, 0, 0), none, none],
  [some (.iload_n 2, 1, 0, 0, 0), some (.ireturn, 1, 0, 0, 0)]]
noncomputable def tb_144_0 : List (List (Option INS)) := [[some (.aload_n 0, 1, 0, 0, 0), some (.iload_n 1, 1, 0, 0, 0), some (.invokevirtual 143, 3, 114, 794, 0), none, none, some (.ifCond .eq 12, 3, 0, 0, 0), none, none, some (.iload_n 2, 1, 0, 0, 0), some (.iconst 1, 1, 0, 0, 0), some (.iconst 5, 1, 0, 0, 0), some (.invokestatic 76, 3, 109, 722, 0), none, none, some (.ifCond .ne 5, 3, 0, 0, 0), none],
  [none, some (.iconst (-1), 1, 0, 0, 0), some (.ireturn, 1, 0, 0, 0), some (.aload_n 0, 1, 0, 0, 0), some (.iload_n 1, 1, 0, 0, 0), some (.iload_n 2, 1, 0, 0, 0), some (.invokevirtual 133, 3, 137, 809, 0), none, none, some (.ifCond .ne 9, 3, 0, 0, 0), none, none, some (.aload_n 0, 1, 0, 0, 0), some (.iconst 3, 1, 0, 0, 0), some (.invokevirtual 84, 3, 112, 725, 0), none],
  [none, some (.ireturn, 1, 0, 0, 0), some (.iload_n 2, 1, 0, 0, 0), some (.tableswitch 66 1 4 #[29, 42, 51, 57], 29, 0, 0, 0), none, none, none, none, none, none, none, none, none, none, none, none],
  [none, none, none, none, none, none, none, none, none, none, none, none, none, none, none, none]]
noncomputable def tb_144_1 : List (List (Option INS)) := [[some (.aload_n 0, 1, 0, 0, 0), some (.iload_n 1, 1, 0, 0, 0), some (.iconst 1, 1, 0, 0, 0), some (.aload_n 0, 1, 0, 0, 0), some (.getfield 25, 3, 4, 6, 647), none, none, some (.iconst 0, 1, 0, 0, 0), some (.iaload, 1, 0, 0, 0), some (.invokevirtual 121, 3, 132, 825, 0), none, none, some (.ireturn, 1, 0, 0, 0), some (.aload_n 0, 1, 0, 0, 0), some (.iload_n 1, 1, 0, 0, 0), some (.invokevirtual 140, 3, 139, 813, 0)],
  [none, none, some (.invokestatic 149, 3, 110, 833, 0), none, none, some (.ireturn, 1, 0, 0, 0), some (.aload_n 0, 1, 0, 0, 0), some (.iload_n 1, 1, 0, 0, 0), some (.invokevirtual 152, 3, 143, 836, 0), none, none, some (.ireturn, 1, 0, 0, 0), some (.aload_n 0, 1, 0, 0, 0), some (.getfield 25, 3, 4, 6, 647), none, none],
  [some (.iconst 0, 1, 0, 0, 0), some (.iaload, 1, 0, 0, 0), some (.iconst 2, 1, 0, 0, 0), some (.irem, 1, 0, 0, 0), some (.ireturn, 1, 0, 0, 0), some (.aload_n 0, 1, 0, 0, 0), some (.iload_n 1, 1, 0, 0, 0), some (.invokevirtual 155, 3, 142, 840, 0), none, none, some (.ireturn, 1, 0, 0, 0)]]
noncomputable def tb_144 : List (List (Option INS)) := tb_144_0 ++ (tb_144_1)
noncomputable def tb_145 : List (List (Option INS)) := [[some (.aload_n 0, 1, 0, 0, 0), some (.getfield 25, 3, 4, 6, 647), none, none, some (.iconst 0, 1, 0, 0, 0), some (.aload_n 0, 1, 0, 0, 0), some (.getfield 31, 3, 4, 8, 649), none, none, some (.bipush 25, 2, 0, 0, 0), none, some (.aload_n 0, 1, 0, 0, 0), some (.getfield 115, 3, 4, 9, 650), none, none, some (.imul, 1, 0, 0, 0)],
  [some (.bipush 25, 2, 0, 0, 0), none, some (.invokestatic 111, 3, 111, 787, 0), none, none, some (.aload_n 0, 1, 0, 0, 0), some (.dup, 1, 0, 0, 0), some (.getfield 115, 3, 4, 9, 650), none, none, some (.iconst 1, 1, 0, 0, 0), some (.iadd, 1, 0, 0, 0), some (.putfield 115, 3, 4, 9, 650), none, none, some (.return_, 1, 0, 0, 0)]]
noncomputable def tb_146 : List (List (Option INS)) := [[some (.aload_n 0, 1, 0, 0, 0), some (.iload_n 1, 1, 0, 0, 0), some (.invokevirtual 143, 3, 114, 794, 0), none, none, some (.ifCond .eq 13, 3, 0, 0, 0), none, none, some (.iload_n 2, 1, 0, 0, 0), some (.iconst 0, 1, 0, 0, 0), some (.bipush 6, 2, 0, 0, 0), none, some (.invokestatic 76, 3, 109, 722, 0), none, none, some (.ifCond .ne 5, 3, 0, 0, 0)],
  [none, none, some (.iconst (-1), 1, 0, 0, 0), some (.ireturn, 1, 0, 0, 0), some (.aload_n 0, 1, 0, 0, 0), some (.getfield 115, 3, 4, 9, 650), none, none, some (.bipush 40, 2, 0, 0, 0), none, some (.if_icmp .ne 6, 3, 0, 0, 0), none, none, some (.bipush (-2), 2, 0, 0, 0), none, some (.ireturn, 1, 0, 0, 0)],
  [some (.aload_n 0, 1, 0, 0, 0), some (.invokevirtual 158, 3, 145, 848, 0), none, none, some (.aload_n 0, 1, 0, 0, 0), some (.aload_n 0, 1, 0, 0, 0), some (.getfield 25, 3, 4, 6, 647), none, none, some (.iload_n 1, 1, 0, 0, 0), some (.iload_n 2, 1, 0, 0, 0), some (.invokevirtual 161, 3, 134, 852, 0), none, none, some (.ifCond .eq 7, 3, 0, 0, 0), none],
  [none, some (.iconst 1, 1, 0, 0, 0), some (.goto 4, 3, 0, 0, 0), none, none, some (.iconst 0, 1, 0, 0, 0), some (.ireturn, 1, 0, 0, 0)]]
noncomputable def tb_147_0 : List (List (Option INS)) := [[some (.aload_n 0, 1, 0, 0, 0), some (.iload_n 1, 1, 0, 0, 0), some (.invokevirtual 143, 3, 114, 794, 0), none, none, some (.ifCond .eq 22, 3, 0, 0, 0), none, none, some (.iload_n 2, 1, 0, 0, 0), some (.iconst 0, 1, 0, 0, 0), some (.iconst 2, 1, 0, 0, 0), some (.invokestatic 76, 3, 109, 722, 0), none, none, some (.ifCond .eq 13, 3, 0, 0, 0), none],
  [none, some (.iload_n 3, 1, 0, 0, 0), some (.iconst 0, 1, 0, 0, 0), some (.bipush 9, 2, 0, 0, 0), none, some (.invokestatic 76, 3, 109, 722, 0), none, none, some (.ifCond .ne 5, 3, 0, 0, 0), none, none, some (.iconst (-1), 1, 0, 0, 0), some (.ireturn, 1, 0, 0, 0), some (.aload_n 0, 1, 0, 0, 0), some (.getfield 25, 3, 4, 6, 647), none],
  [none, some (.iconst 1, 1, 0, 0, 0), some (.iconst 3, 1, 0, 0, 0), some (.iload_n 1, 1, 0, 0, 0), some (.imul, 1, 0, 0, 0), some (.iadd, 1, 0, 0, 0), some (.iload_n 2, 1, 0, 0, 0), some (.iadd, 1, 0, 0, 0), some (.iaload, 1, 0, 0, 0), some (.istore 4, 2, 0, 0, 0), none, some (.iload 4, 2, 0, 0, 0), none, some (.iload_n 3, 1, 0, 0, 0), some (.if_icmp .ne 6, 3, 0, 0, 0), none],
  [none, some (.bipush (-4), 2, 0, 0, 0), none, some (.ireturn, 1, 0, 0, 0), some (.aload_n 0, 1, 0, 0, 0), some (.getfield 115, 3, 4, 9, 650), none, none, some (.bipush 40, 2, 0, 0, 0), none, some (.if_icmp .ne 6, 3, 0, 0, 0), none, none, some (.bipush (-2), 2, 0, 0, 0), none, some (.ireturn, 1, 0, 0, 0)]]
noncomputable def tb_147_1 : List (List (Option INS)) := [[some (.aload_n 0, 1, 0, 0, 0), some (.invokevirtual 158, 3, 145, 848, 0), none, none, some (.aload_n 0, 1, 0, 0, 0), some (.getfield 25, 3, 4, 6, 647), none, none, some (.iconst 1, 1, 0, 0, 0), some (.iconst 3, 1, 0, 0, 0), some (.iload_n 1, 1, 0, 0, 0), some (.imul, 1, 0, 0, 0), some (.iadd, 1, 0, 0, 0), some (.iload_n 2, 1, 0, 0, 0), some (.iadd, 1, 0, 0, 0), some (.iload_n 3, 1, 0, 0, 0)],
  [some (.iastore, 1, 0, 0, 0), some (.iload 4, 2, 0, 0, 0), none, some (.ireturn, 1, 0, 0, 0)]]
noncomputable def tb_147 : List (List (Option INS)) := tb_147_0 ++ (tb_147_1)
noncomputable def tb_148 : List (List (Option INS)) := [[some (.iload_n 1, 1, 0, 0, 0), some (.iconst 0, 1, 0, 0, 0), some (.aload_n 0, 1, 0, 0, 0), some (.getfield 115, 3, 4, 9, 650), none, none, some (.invokestatic 76, 3, 109, 722, 0), none, none, some (.ifCond .ne 5, 3, 0, 0, 0), none, none, some (.iconst (-1), 1, 0, 0, 0), some (.ireturn, 1, 0, 0, 0), some (.aload_n 0, 1, 0, 0, 0), some (.getfield 115, 3, 4, 9, 650)],
  [none, none, some (.iload_n 1, 1, 0, 0, 0), some (.isub, 1, 0, 0, 0), some (.istore_n 2, 1, 0, 0, 0), some (.iload_n 2, 1, 0, 0, 0), some (.ifCond .le 21, 3, 0, 0, 0), none, none, some (.aload_n 0, 1, 0, 0, 0), some (.getfield 31, 3, 4, 8, 649), none, none, some (.bipush 25, 2, 0, 0, 0), none, some (.iload_n 1, 1, 0, 0, 0)],
  [some (.imul, 1, 0, 0, 0), some (.aload_n 0, 1, 0, 0, 0), some (.getfield 25, 3, 4, 6, 647), none, none, some (.iconst 0, 1, 0, 0, 0), some (.bipush 25, 2, 0, 0, 0), none, some (.invokestatic 111, 3, 111, 787, 0), none, none, some (.aload_n 0, 1, 0, 0, 0), some (.iload_n 1, 1, 0, 0, 0), some (.putfield 115, 3, 4, 9, 650), none, none],
  [some (.iload_n 2, 1, 0, 0, 0), some (.ireturn, 1, 0, 0, 0)]]
noncomputable def tb_149_0 : List (List (Option INS)) := [[some (.iload_n 1, 1, 0, 0, 0), some (.iconst 0, 1, 0, 0, 0), some (.iconst 2, 1, 0, 0, 0), some (.invokestatic 76, 3, 109, 722, 0), none, none, some (.ifCond .ne 5, 3, 0, 0, 0), none, none, some (.iconst (-1), 1, 0, 0, 0), some (.ireturn, 1, 0, 0, 0), some (.aload_n 0, 1, 0, 0, 0), some (.getfield 73, 3, 4, 4, 645), none, none, some (.ifCond .ne 6, 3, 0, 0, 0)],
  [none, none, some (.bipush (-4), 2, 0, 0, 0), none, some (.ireturn, 1, 0, 0, 0), some (.sipush 1026, 3, 0, 0, 0), none, none, some (.iload_n 1, 1, 0, 0, 0), some (.imul, 1, 0, 0, 0), some (.istore_n 2, 1, 0, 0, 0), some (.aload_n 0, 1, 0, 0, 0), some (.getfield 37, 3, 4, 11, 652), none, none, some (.iload_n 1, 1, 0, 0, 0)],
  [some (.iconst 1, 1, 0, 0, 0), some (.bastore, 1, 0, 0, 0), some (.aload_n 0, 1, 0, 0, 0), some (.getfield 34, 3, 4, 10, 651), none, none, some (.iload_n 2, 1, 0, 0, 0), some (.aload_n 0, 1, 0, 0, 0), some (.getfield 115, 3, 4, 9, 650), none, none, some (.iastore, 1, 0, 0, 0), some (.aload_n 0, 1, 0, 0, 0), some (.getfield 25, 3, 4, 6, 647), none, none],
  [some (.iconst 0, 1, 0, 0, 0), some (.aload_n 0, 1, 0, 0, 0), some (.getfield 34, 3, 4, 10, 651), none, none, some (.iload_n 2, 1, 0, 0, 0), some (.iconst 1, 1, 0, 0, 0), some (.iadd, 1, 0, 0, 0), some (.bipush 25, 2, 0, 0, 0), none, some (.invokestatic 111, 3, 111, 787, 0), none, none, some (.aload_n 0, 1, 0, 0, 0), some (.getfield 31, 3, 4, 8, 649), none]]
noncomputable def tb_149_1 : List (List (Option INS)) := [[none, some (.iconst 0, 1, 0, 0, 0), some (.aload_n 0, 1, 0, 0, 0), some (.getfield 34, 3, 4, 10, 651), none, none, some (.iload_n 2, 1, 0, 0, 0), some (.iconst 1, 1, 0, 0, 0), some (.iadd, 1, 0, 0, 0), some (.bipush 25, 2, 0, 0, 0), none, some (.iadd, 1, 0, 0, 0), some (.sipush 1000, 3, 0, 0, 0), none, none, some (.invokestatic 111, 3, 111, 787, 0)],
  [none, none, some (.aload_n 0, 1, 0, 0, 0), some (.getfield 115, 3, 4, 9, 650), none, none, some (.ireturn, 1, 0, 0, 0)]]
noncomputable def tb_149 : List (List (Option INS)) := tb_149_0 ++ (tb_149_1)
noncomputable def tb_150_0 : List (List (Option INS)) := [[some (.iload_n 1, 1, 0, 0, 0), some (.iconst 0, 1, 0, 0, 0), some (.iconst 2, 1, 0, 0, 0), some (.invokestatic 76, 3, 109, 722, 0), none, none, some (.ifCond .ne 5, 3, 0, 0, 0), none, none, some (.iconst (-1), 1, 0, 0, 0), some (.ireturn, 1, 0, 0, 0), some (.aload_n 0, 1, 0, 0, 0), some (.getfield 37, 3, 4, 11, 652), none, none, some (.iload_n 1, 1, 0, 0, 0)],
  [some (.baload, 1, 0, 0, 0), some (.ifCond .ne 9, 3, 0, 0, 0), none, none, some (.aload_n 0, 1, 0, 0, 0), some (.iconst 1, 1, 0, 0, 0), some (.invokevirtual 84, 3, 112, 725, 0), none, none, some (.ireturn, 1, 0, 0, 0), some (.sipush 1026, 3, 0, 0, 0), none, none, some (.iload_n 1, 1, 0, 0, 0), some (.imul, 1, 0, 0, 0), some (.istore_n 2, 1, 0, 0, 0)],
  [some (.aload_n 0, 1, 0, 0, 0), some (.aload_n 0, 1, 0, 0, 0), some (.getfield 34, 3, 4, 10, 651), none, none, some (.iload_n 2, 1, 0, 0, 0), some (.iaload, 1, 0, 0, 0), some (.putfield 115, 3, 4, 9, 650), none, none, some (.aload_n 0, 1, 0, 0, 0), some (.getfield 34, 3, 4, 10, 651), none, none, some (.iload_n 2, 1, 0, 0, 0), some (.iconst 1, 1, 0, 0, 0)],
  [some (.iadd, 1, 0, 0, 0), some (.aload_n 0, 1, 0, 0, 0), some (.getfield 25, 3, 4, 6, 647), none, none, some (.iconst 0, 1, 0, 0, 0), some (.bipush 25, 2, 0, 0, 0), none, some (.invokestatic 111, 3, 111, 787, 0), none, none, some (.aload_n 0, 1, 0, 0, 0), some (.getfield 34, 3, 4, 10, 651), none, none, some (.iload_n 2, 1, 0, 0, 0)]]
noncomputable def tb_150_1 : List (List (Option INS)) := [[some (.iconst 1, 1, 0, 0, 0), some (.iadd, 1, 0, 0, 0), some (.bipush 25, 2, 0, 0, 0), none, some (.iadd, 1, 0, 0, 0), some (.aload_n 0, 1, 0, 0, 0), some (.getfield 31, 3, 4, 8, 649), none, none, some (.iconst 0, 1, 0, 0, 0), some (.sipush 1000, 3, 0, 0, 0), none, none, some (.invokestatic 111, 3, 111, 787, 0), none, none],
  [some (.aload_n 0, 1, 0, 0, 0), some (.getfield 115, 3, 4, 9, 650), none, none, some (.ireturn, 1, 0, 0, 0)]]
noncomputable def tb_150 : List (List (Option INS)) := tb_150_0 ++ (tb_150_1)
noncomputable def tb_151 : List (List (Option INS)) := [[some (.aload_n 0, 1, 0, 0, 0), some (.getfield 25, 3, 4, 6, 647), none, none, some (.iconst 0, 1, 0, 0, 0), some (.aload_n 0, 1, 0, 0, 0), some (.getfield 28, 3, 4, 7, 648), none, none, some (.iconst 0, 1, 0, 0, 0), some (.bipush 25, 2, 0, 0, 0), none, some (.invokestatic 111, 3, 111, 787, 0), none, none, some (.return_, 1, 0, 0, 0)]]
noncomputable def tb_152 : List (List (Option INS)) := [[some (.aload_n 0, 1, 0, 0, 0), some (.iload_n 1, 1, 0, 0, 0), some (.invokevirtual 143, 3, 114, 794, 0), none, none, some (.ifCond .eq 23, 3, 0, 0, 0), none, none, some (.iload_n 2, 1, 0, 0, 0), some (.iconst 0, 1, 0, 0, 0), some (.bipush 6, 2, 0, 0, 0), none, some (.invokestatic 76, 3, 109, 722, 0), none, none, some (.ifCond .eq 13, 3, 0, 0, 0)],
  [none, none, some (.iload_n 3, 1, 0, 0, 0), some (.iconst 0, 1, 0, 0, 0), some (.bipush 99, 2, 0, 0, 0), none, some (.invokestatic 76, 3, 109, 722, 0), none, none, some (.ifCond .ne 6, 3, 0, 0, 0), none, none, some (.bipush (-100), 2, 0, 0, 0), none, some (.ireturn, 1, 0, 0, 0), some (.iload_n 2, 1, 0, 0, 0)],
  [some (.ifCond .ne 12, 3, 0, 0, 0), none, none, some (.aload_n 0, 1, 0, 0, 0), some (.iconst 0, 1, 0, 0, 0), some (.iconst 0, 1, 0, 0, 0), some (.invokevirtual 96, 3, 113, 741, 0), none, none, some (.goto 20, 3, 0, 0, 0), none, none, some (.aload_n 0, 1, 0, 0, 0), some (.aload_n 0, 1, 0, 0, 0), some (.iload_n 1, 1, 0, 0, 0), some (.iload_n 2, 1, 0, 0, 0)],
  [some (.invokevirtual 118, 3, 131, 821, 0), none, none, some (.aload_n 0, 1, 0, 0, 0), some (.iload_n 1, 1, 0, 0, 0), some (.iload_n 2, 1, 0, 0, 0), some (.iload_n 3, 1, 0, 0, 0), some (.invokevirtual 121, 3, 132, 825, 0), none, none, some (.invokevirtual 96, 3, 113, 741, 0), none, none, some (.ireturn, 1, 0, 0, 0)]]
noncomputable def tb_153_0 : List (List (Option INS)) := [[some (.aload_n 0, 1, 0, 0, 0), some (.getfield 7, 3, 4, 0, 641), none, none, some (.iload_n 1, 1, 0, 0, 0), some (.iaload, 1, 0, 0, 0), some (.ifCond .ge 5, 3, 0, 0, 0), none, none, some (.iconst 1, 1, 0, 0, 0), some (.ireturn, 1, 0, 0, 0), some (.aload_n 0, 1, 0, 0, 0), some (.getfield 7, 3, 4, 0, 641), none, none, some (.iload_n 1, 1, 0, 0, 0)],
  [some (.iaload, 1, 0, 0, 0), some (.iload_n 2, 1, 0, 0, 0), some (.iload_n 3, 1, 0, 0, 0), some (.invokestatic 76, 3, 109, 722, 0), none, none, some (.ifCond .ne 5, 3, 0, 0, 0), none, none, some (.iconst 5, 1, 0, 0, 0), some (.ireturn, 1, 0, 0, 0), some (.iconst 1, 1, 0, 0, 0), some (.istore 6, 2, 0, 0, 0), none, some (.iconst 0, 1, 0, 0, 0), some (.istore 7, 2, 0, 0, 0)],
  [none, some (.iload 7, 2, 0, 0, 0), none, some (.aload_n 0, 1, 0, 0, 0), some (.getfield 7, 3, 4, 0, 641), none, none, some (.iload_n 1, 1, 0, 0, 0), some (.iaload, 1, 0, 0, 0), some (.if_icmp .ge 43, 3, 0, 0, 0), none, none, some (.iload 6, 2, 0, 0, 0), none, some (.ifCond .eq 29, 3, 0, 0, 0), none],
  [none, some (.aload_n 0, 1, 0, 0, 0), some (.getfield 13, 3, 4, 1, 642), none, none, some (.bipush 40, 2, 0, 0, 0), none, some (.iload_n 1, 1, 0, 0, 0), some (.imul, 1, 0, 0, 0), some (.iload 7, 2, 0, 0, 0), none, some (.iadd, 1, 0, 0, 0), some (.iaload, 1, 0, 0, 0), some (.iload 4, 2, 0, 0, 0), none, some (.iload 5, 2, 0, 0, 0)]]
noncomputable def tb_153_1 : List (List (Option INS)) := [[none, some (.invokestatic 76, 3, 109, 722, 0), none, none, some (.ifCond .eq 7, 3, 0, 0, 0), none, none, some (.iconst 1, 1, 0, 0, 0), some (.goto 4, 3, 0, 0, 0), none, none, some (.iconst 0, 1, 0, 0, 0), some (.istore 6, 2, 0, 0, 0), none, some (.iinc 7 1, 3, 0, 0, 0), none],
  [none, some (.goto (-48), 3, 0, 0, 0), none, none, some (.iload 6, 2, 0, 0, 0), none, some (.ifCond .eq 7, 3, 0, 0, 0), none, none, some (.iconst 0, 1, 0, 0, 0), some (.goto 4, 3, 0, 0, 0), none, none, some (.iconst 3, 1, 0, 0, 0), some (.ireturn, 1, 0, 0, 0)]]
noncomputable def tb_153 : List (List (Option INS)) := tb_153_0 ++ (tb_153_1)
noncomputable def tb_154_0 : List (List (Option INS)) := [[some (.aload_n 0, 1, 0, 0, 0), some (.iload_n 1, 1, 0, 0, 0), some (.invokevirtual 143, 3, 114, 794, 0), none, none, some (.ifCond .eq 10, 3, 0, 0, 0), none, none, some (.iload_n 2, 1, 0, 0, 0), some (.invokestatic 80, 3, 115, 719, 0), none, none, some (.ifCond .ne 5, 3, 0, 0, 0), none, none, some (.iconst (-1), 1, 0, 0, 0)],
  [some (.ireturn, 1, 0, 0, 0), some (.aload_n 0, 1, 0, 0, 0), some (.iload_n 2, 1, 0, 0, 0), some (.iconst 0, 1, 0, 0, 0), some (.bipush 20, 2, 0, 0, 0), none, some (.iconst 0, 1, 0, 0, 0), some (.bipush 6, 2, 0, 0, 0), none, some (.invokevirtual 164, 3, 153, 880, 0), none, none, some (.istore_n 3, 1, 0, 0, 0), some (.iload_n 3, 1, 0, 0, 0), some (.ifCond .eq 9, 3, 0, 0, 0), none],
  [none, some (.aload_n 0, 1, 0, 0, 0), some (.iload_n 3, 1, 0, 0, 0), some (.invokevirtual 84, 3, 112, 725, 0), none, none, some (.ireturn, 1, 0, 0, 0), some (.iconst 0, 1, 0, 0, 0), some (.istore 4, 2, 0, 0, 0), none, some (.aload_n 0, 1, 0, 0, 0), some (.invokevirtual 168, 3, 151, 884, 0), none, none, some (.iconst 0, 1, 0, 0, 0), some (.istore 5, 2, 0, 0, 0)],
  [none, some (.iload 5, 2, 0, 0, 0), none, some (.aload_n 0, 1, 0, 0, 0), some (.getfield 7, 3, 4, 0, 641), none, none, some (.iload_n 2, 1, 0, 0, 0), some (.iaload, 1, 0, 0, 0), some (.if_icmp .ge 43, 3, 0, 0, 0), none, none, some (.iload 4, 2, 0, 0, 0), none, some (.aload_n 0, 1, 0, 0, 0), some (.aload_n 0, 1, 0, 0, 0)]]
noncomputable def tb_154_1 : List (List (Option INS)) := [[some (.getfield 28, 3, 4, 7, 648), none, none, some (.iload_n 1, 1, 0, 0, 0), some (.aload_n 0, 1, 0, 0, 0), some (.getfield 13, 3, 4, 1, 642), none, none, some (.bipush 40, 2, 0, 0, 0), none, some (.iload_n 2, 1, 0, 0, 0), some (.imul, 1, 0, 0, 0), some (.iload 5, 2, 0, 0, 0), none, some (.iadd, 1, 0, 0, 0), some (.iaload, 1, 0, 0, 0)],
  [some (.invokevirtual 161, 3, 134, 852, 0), none, none, some (.ifCond .eq 7, 3, 0, 0, 0), none, none, some (.iconst 1, 1, 0, 0, 0), some (.goto 4, 3, 0, 0, 0), none, none, some (.iconst 0, 1, 0, 0, 0), some (.iadd, 1, 0, 0, 0), some (.istore 4, 2, 0, 0, 0), none, some (.iinc 5 1, 3, 0, 0, 0), none],
  [none, some (.goto (-48), 3, 0, 0, 0), none, none, some (.aload_n 0, 1, 0, 0, 0), some (.aload_n 0, 1, 0, 0, 0), some (.getfield 28, 3, 4, 7, 648), none, none, some (.iload_n 1, 1, 0, 0, 0), some (.invokestatic 171, 3, 136, 888, 0), none, none, some (.iload 4, 2, 0, 0, 0), none, some (.invokevirtual 96, 3, 113, 741, 0)],
  [none, none, some (.ireturn, 1, 0, 0, 0)]]
noncomputable def tb_154 : List (List (Option INS)) := tb_154_0 ++ (tb_154_1)
noncomputable def tb_155_0 : List (List (Option INS)) := [[some (.iconst 1, 1, 0, 0, 0), some (.istore 4, 2, 0, 0, 0), none, some (.iconst 0, 1, 0, 0, 0), some (.istore 5, 2, 0, 0, 0), none, some (.iload 5, 2, 0, 0, 0), none, some (.iconst 3, 1, 0, 0, 0), some (.if_icmp .ge 55, 3, 0, 0, 0), none, none, some (.aload_n 0, 1, 0, 0, 0), some (.getfield 13, 3, 4, 1, 642), none, none],
  [some (.bipush 40, 2, 0, 0, 0), none, some (.iload_n 3, 1, 0, 0, 0), some (.imul, 1, 0, 0, 0), some (.iload 5, 2, 0, 0, 0), none, some (.iadd, 1, 0, 0, 0), some (.iaload, 1, 0, 0, 0), some (.istore 6, 2, 0, 0, 0), none, some (.iload 4, 2, 0, 0, 0), none, some (.ifCond .eq 27, 3, 0, 0, 0), none, none, some (.iload 6, 2, 0, 0, 0)],
  [none, some (.ifCond .lt 18, 3, 0, 0, 0), none, none, some (.iload 6, 2, 0, 0, 0), none, some (.aload_n 1, 1, 0, 0, 0), some (.iconst 1, 1, 0, 0, 0), some (.iconst 3, 1, 0, 0, 0), some (.iload_n 2, 1, 0, 0, 0), some (.imul, 1, 0, 0, 0), some (.iadd, 1, 0, 0, 0), some (.iload 5, 2, 0, 0, 0), none, some (.iadd, 1, 0, 0, 0), some (.iaload, 1, 0, 0, 0)],
  [some (.if_icmp .ne 7, 3, 0, 0, 0), none, none, some (.iconst 1, 1, 0, 0, 0), some (.goto 4, 3, 0, 0, 0), none, none, some (.iconst 0, 1, 0, 0, 0), some (.istore 4, 2, 0, 0, 0), none, some (.iinc 5 1, 3, 0, 0, 0), none, none, some (.goto (-55), 3, 0, 0, 0), none, none]]
noncomputable def tb_155_1 : List (List (Option INS)) := [[some (.iload 4, 2, 0, 0, 0), none, some (.ireturn, 1, 1, 0, 0)]]
noncomputable def tb_155 : List (List (Option INS)) := tb_155_0 ++ (tb_155_1)
noncomputable def tb_156 : List (List (Option INS)) := [[some (.iconst 1, 1, 0, 0, 0), some (.istore_n 1, 1, 0, 0, 0), some (.iconst 0, 1, 0, 0, 0), some (.istore_n 2, 1, 0, 0, 0), some (.iload_n 2, 1, 0, 0, 0), some (.iload_n 0, 1, 0, 0, 0), some (.if_icmp .ge 14, 3, 0, 0, 0), none, none, some (.iload_n 1, 1, 0, 0, 0), some (.bipush 7, 2, 0, 0, 0), none, some (.imul, 1, 0, 0, 0), some (.istore_n 1, 1, 0, 0, 0), some (.iinc 2 1, 3, 0, 0, 0), none],
  [none, some (.goto (-13), 3, 0, 0, 0), none, none, some (.iload_n 1, 1, 0, 0, 0), some (.ireturn, 1, 0, 0, 0)]]
noncomputable def tb_157 : List (List (Option INS)) := [[some (.aload_n 0, 1, 0, 0, 0), some (.invokevirtual 168, 3, 151, 884, 0), none, none, some (.iload_n 3, 1, 0, 0, 0), some (.invokestatic 174, 3, 156, 895, 0), none, none, some (.bipush 7, 2, 0, 0, 0), none, some (.idiv, 1, 0, 0, 0), some (.istore 4, 2, 0, 0, 0), none, some (.iload 4, 2, 0, 0, 0), none, some (.ifCond .le 30, 3, 0, 0, 0)],
  [none, none, some (.aload_n 0, 1, 0, 0, 0), some (.aload_n 0, 1, 0, 0, 0), some (.getfield 28, 3, 4, 7, 648), none, none, some (.iload_n 1, 1, 0, 0, 0), some (.iload_n 2, 1, 0, 0, 0), some (.iload 4, 2, 0, 0, 0), none, some (.idiv, 1, 0, 0, 0), some (.bipush 7, 2, 0, 0, 0), none, some (.irem, 1, 0, 0, 0), some (.invokevirtual 161, 3, 134, 852, 0)],
  [none, none, some (.pop, 1, 0, 0, 0), some (.iload 4, 2, 0, 0, 0), none, some (.bipush 7, 2, 0, 0, 0), none, some (.idiv, 1, 0, 0, 0), some (.istore 4, 2, 0, 0, 0), none, some (.goto (-29), 3, 0, 0, 0), none, none, some (.return_, 1, 0, 0, 0)]]
noncomputable def tb_158_0 : List (List (Option INS)) := [[some (.aload_n 0, 1, 0, 0, 0), some (.iload_n 1, 1, 0, 0, 0), some (.invokevirtual 143, 3, 114, 794, 0), none, none, some (.ifCond .eq 27, 3, 0, 0, 0), none, none, some (.iload_n 2, 1, 0, 0, 0), some (.invokestatic 80, 3, 115, 719, 0), none, none, some (.ifCond .eq 20, 3, 0, 0, 0), none, none, some (.iload_n 3, 1, 0, 0, 0)],
  [some (.iconst (-1), 1, 0, 0, 0), some (.iconst 1, 1, 0, 0, 0), some (.invokestatic 76, 3, 109, 722, 0), none, none, some (.ifCond .eq 11, 3, 0, 0, 0), none, none, some (.iload 4, 2, 0, 0, 0), none, some (.invokestatic 80, 3, 115, 719, 0), none, none, some (.ifCond .ne 5, 3, 0, 0, 0), none, none],
  [some (.iconst (-1), 1, 0, 0, 0), some (.ireturn, 1, 0, 0, 0), some (.aload_n 0, 1, 0, 0, 0), some (.iload_n 2, 1, 0, 0, 0), some (.iconst 3, 1, 0, 0, 0), some (.iconst 3, 1, 0, 0, 0), some (.iconst (-1), 1, 0, 0, 0), some (.bipush 9, 2, 0, 0, 0), none, some (.invokevirtual 164, 3, 153, 880, 0), none, none, some (.istore 5, 2, 0, 0, 0), none, some (.iload 5, 2, 0, 0, 0), none],
  [some (.ifCond .eq 10, 3, 0, 0, 0), none, none, some (.aload_n 0, 1, 0, 0, 0), some (.iload 5, 2, 0, 0, 0), none, some (.invokevirtual 84, 3, 112, 725, 0), none, none, some (.ireturn, 1, 0, 0, 0), some (.iconst 0, 1, 0, 0, 0), some (.istore 6, 2, 0, 0, 0), none, some (.iload 6, 2, 0, 0, 0), none, some (.iconst 5, 1, 0, 0, 0)]]
noncomputable def tb_158_1 : List (List (Option INS)) := [[some (.if_icmp .ge 124, 3, 0, 0, 0), none, none, some (.iconst 0, 1, 0, 0, 0), some (.istore 7, 2, 0, 0, 0), none, some (.iload 7, 2, 0, 0, 0), none, some (.iload 6, 2, 0, 0, 0), none, some (.invokestatic 174, 3, 156, 895, 0), none, none, some (.if_icmp .ge 105, 3, 0, 0, 0), none, none],
  [some (.aload_n 0, 1, 0, 0, 0), some (.iload_n 1, 1, 0, 0, 0), some (.iload 7, 2, 0, 0, 0), none, some (.iload 6, 2, 0, 0, 0), none, some (.invokevirtual 177, 3, 157, 898, 0), none, none, some (.aload_n 0, 1, 0, 0, 0), some (.aload_n 0, 1, 0, 0, 0), some (.getfield 28, 3, 4, 7, 648), none, none, some (.iload_n 1, 1, 0, 0, 0), some (.iload_n 2, 1, 0, 0, 0)],
  [some (.invokevirtual 181, 3, 155, 902, 0), none, none, some (.ifCond .eq 77, 3, 0, 0, 0), none, none, some (.iload_n 3, 1, 0, 0, 0), some (.ifCond .lt 16, 3, 0, 0, 0), none, none, some (.aload_n 0, 1, 0, 0, 0), some (.getfield 28, 3, 4, 7, 648), none, none, some (.bipush 19, 2, 0, 0, 0), none],
  [some (.iload_n 1, 1, 0, 0, 0), some (.iadd, 1, 0, 0, 0), some (.iaload, 1, 0, 0, 0), some (.iload_n 3, 1, 0, 0, 0), some (.if_icmp .ne 60, 3, 0, 0, 0), none, none, some (.aload_n 0, 1, 0, 0, 0), some (.iload 4, 2, 0, 0, 0), none, some (.iload 6, 2, 0, 0, 0), none, some (.invokevirtual 88, 3, 117, 729, 0), none, none, some (.iload 7, 2, 0, 0, 0)]]
noncomputable def tb_158_2 : List (List (Option INS)) := [[none, some (.istore 8, 2, 0, 0, 0), none, some (.iload 6, 2, 0, 0, 0), none, some (.iconst 1, 1, 0, 0, 0), some (.isub, 1, 0, 0, 0), some (.istore 9, 2, 0, 0, 0), none, some (.iload 9, 2, 0, 0, 0), none, some (.ifCond .lt 34, 3, 0, 0, 0), none, none, some (.aload_n 0, 1, 0, 0, 0), some (.getfield 13, 3, 4, 1, 642)],
  [none, none, some (.bipush 40, 2, 0, 0, 0), none, some (.iload 4, 2, 0, 0, 0), none, some (.imul, 1, 0, 0, 0), some (.iload 9, 2, 0, 0, 0), none, some (.iadd, 1, 0, 0, 0), some (.iload 8, 2, 0, 0, 0), none, some (.bipush 7, 2, 0, 0, 0), none, some (.irem, 1, 0, 0, 0), some (.iastore, 1, 0, 0, 0)],
  [some (.iload 8, 2, 0, 0, 0), none, some (.bipush 7, 2, 0, 0, 0), none, some (.idiv, 1, 0, 0, 0), some (.istore 8, 2, 0, 0, 0), none, some (.iinc 9 (-1), 3, 0, 0, 0), none, none, some (.goto (-33), 3, 0, 0, 0), none, none, some (.iload 6, 2, 0, 0, 0), none, some (.ireturn, 1, 0, 0, 0)],
  [some (.iinc 7 1, 3, 0, 0, 0), none, none, some (.goto (-109), 3, 0, 0, 0), none, none, some (.iinc 6 1, 3, 0, 0, 0), none, none, some (.goto (-124), 3, 0, 0, 0), none, none, some (.bipush (-9), 2, 0, 0, 0), none, some (.ireturn, 1, 0, 0, 0)]]
noncomputable def tb_158 : List (List (Option INS)) := tb_158_0 ++ (tb_158_1 ++ (tb_158_2))
noncomputable def tb_159 : List (List (Option INS)) := [[some (.lload_n 1, 1, 0, 0, 0), some (.lstore 5, 2, 0, 0, 0), none, some (.lload_n 3, 1, 0, 0, 0), some (.lstore 7, 2, 0, 0, 0), none, some (.lload 7, 2, 0, 0, 0), none, some (.lconst 0, 1, 0, 0, 0), some (.lcmp, 1, 0, 0, 0), some (.ifCond .eq 21, 3, 0, 0, 0), none, none, some (.lload 5, 2, 0, 0, 0), none, some (.lload 7, 2, 0, 0, 0)],
  [none, some (.lrem, 1, 0, 0, 0), some (.lstore 9, 2, 0, 0, 0), none, some (.lload 7, 2, 0, 0, 0), none, some (.lstore 5, 2, 0, 0, 0), none, some (.lload 9, 2, 0, 0, 0), none, some (.lstore 7, 2, 0, 0, 0), none, some (.goto (-22), 3, 0, 0, 0), none, none, some (.aload_n 0, 1, 0, 0, 0)],
  [some (.lload_n 1, 1, 0, 0, 0), some (.lload 5, 2, 0, 0, 0), none, some (.ldiv, 1, 0, 0, 0), some (.putfield 184, 3, 4, 13, 654), none, none, some (.aload_n 0, 1, 0, 0, 0), some (.lload_n 3, 1, 0, 0, 0), some (.lload 5, 2, 0, 0, 0), none, some (.ldiv, 1, 0, 0, 0), some (.putfield 41, 3, 4, 14, 655), none, none, some (.iconst 1, 1, 0, 0, 0)],
  [some (.ireturn, 1, 0, 0, 0)]]
noncomputable def tb_160_0 : List (List (Option INS)) := [[some (.aload_n 0, 1, 0, 0, 0), some (.iload_n 1, 1, 0, 0, 0), some (.invokevirtual 143, 3, 114, 794, 0), none, none, some (.ifCond .eq 12, 3, 0, 0, 0), none, none, some (.iload_n 2, 1, 0, 0, 0), some (.iconst 0, 1, 0, 0, 0), some (.iconst 4, 1, 0, 0, 0), some (.invokestatic 76, 3, 109, 722, 0), none, none, some (.ifCond .ne 5, 3, 0, 0, 0), none],
  [none, some (.iconst (-1), 1, 0, 0, 0), some (.ireturn, 1, 0, 0, 0), some (.iconst 0, 1, 0, 0, 0), some (.istore_n 3, 1, 0, 0, 0), some (.iconst 0, 1, 0, 0, 0), some (.istore 4, 2, 0, 0, 0), none, some (.iload 4, 2, 0, 0, 0), none, some (.sipush 1000, 3, 0, 0, 0), none, none, some (.if_icmp .ge 17, 3, 0, 0, 0), none, none],
  [some (.aload_n 0, 1, 0, 0, 0), some (.getfield 54, 3, 4, 20, 661), none, none, some (.iload 4, 2, 0, 0, 0), none, some (.iconst 0, 1, 0, 0, 0), some (.bastore, 1, 0, 0, 0), some (.iinc 4 1, 3, 0, 0, 0), none, none, some (.goto (-19), 3, 0, 0, 0), none, none, some (.iconst 0, 1, 0, 0, 0), some (.istore 4, 2, 0, 0, 0)],
  [none, some (.iload 4, 2, 0, 0, 0), none, some (.iload_n 2, 1, 0, 0, 0), some (.if_icmp .gt 73, 3, 0, 0, 0), none, none, some (.iconst 0, 1, 0, 0, 0), some (.istore 5, 2, 0, 0, 0), none, some (.iload 5, 2, 0, 0, 0), none, some (.iload 4, 2, 0, 0, 0), none, some (.invokestatic 174, 3, 156, 895, 0), none]]
noncomputable def tb_160_1 : List (List (Option INS)) := [[none, some (.if_icmp .ge 54, 3, 0, 0, 0), none, none, some (.aload_n 0, 1, 0, 0, 0), some (.iload_n 1, 1, 0, 0, 0), some (.iload 5, 2, 0, 0, 0), none, some (.iload 4, 2, 0, 0, 0), none, some (.invokevirtual 177, 3, 157, 898, 0), none, none, some (.aload_n 0, 1, 0, 0, 0), some (.getfield 28, 3, 4, 7, 648), none],
  [none, some (.iload_n 1, 1, 0, 0, 0), some (.invokestatic 171, 3, 136, 888, 0), none, none, some (.istore 6, 2, 0, 0, 0), none, some (.iload_n 3, 1, 0, 0, 0), some (.aload_n 0, 1, 0, 0, 0), some (.getfield 54, 3, 4, 20, 661), none, none, some (.iload 6, 2, 0, 0, 0), none, some (.baload, 1, 0, 0, 0), some (.ifCond .eq 7, 3, 0, 0, 0)],
  [none, none, some (.iconst 0, 1, 0, 0, 0), some (.goto 4, 3, 0, 0, 0), none, none, some (.iconst 1, 1, 0, 0, 0), some (.iadd, 1, 0, 0, 0), some (.istore_n 3, 1, 0, 0, 0), some (.aload_n 0, 1, 0, 0, 0), some (.getfield 54, 3, 4, 20, 661), none, none, some (.iload 6, 2, 0, 0, 0), none, some (.iconst 1, 1, 0, 0, 0)],
  [some (.bastore, 1, 0, 0, 0), some (.iinc 5 1, 3, 0, 0, 0), none, none, some (.goto (-58), 3, 0, 0, 0), none, none, some (.iinc 4 1, 3, 0, 0, 0), none, none, some (.goto (-73), 3, 0, 0, 0), none, none, some (.aload_n 0, 1, 0, 0, 0), some (.iload_n 3, 1, 0, 0, 0), some (.i2l, 1, 0, 0, 0)]]
noncomputable def tb_160_2 : List (List (Option INS)) := [[some (.lconst 1, 1, 0, 0, 0), some (.invokevirtual 187, 3, 159, 910, 0), none, none, some (.ireturn, 1, 0, 0, 0)]]
noncomputable def tb_160 : List (List (Option INS)) := tb_160_0 ++ (tb_160_1 ++ (tb_160_2))
noncomputable def tb_161_0 : List (List (Option INS)) := [[some (.aload_n 0, 1, 0, 0, 0), some (.iload_n 1, 1, 0, 0, 0), some (.invokevirtual 143, 3, 114, 794, 0), none, none, some (.ifCond .eq 10, 3, 0, 0, 0), none, none, some (.iload_n 2, 1, 0, 0, 0), some (.invokestatic 80, 3, 115, 719, 0), none, none, some (.ifCond .ne 5, 3, 0, 0, 0), none, none, some (.iconst (-1), 1, 0, 0, 0)],
  [some (.ireturn, 1, 0, 0, 0), some (.aload_n 0, 1, 0, 0, 0), some (.iload_n 2, 1, 0, 0, 0), some (.iconst 3, 1, 0, 0, 0), some (.iconst 3, 1, 0, 0, 0), some (.iconst (-1), 1, 0, 0, 0), some (.bipush 9, 2, 0, 0, 0), none, some (.invokevirtual 164, 3, 153, 880, 0), none, none, some (.istore_n 3, 1, 0, 0, 0), some (.iload_n 3, 1, 0, 0, 0), some (.ifCond .eq 9, 3, 0, 0, 0), none, none],
  [some (.aload_n 0, 1, 0, 0, 0), some (.iload_n 3, 1, 0, 0, 0), some (.invokevirtual 84, 3, 112, 725, 0), none, none, some (.ireturn, 1, 0, 0, 0), some (.iconst 0, 1, 0, 0, 0), some (.istore 4, 2, 0, 0, 0), none, some (.iconst 0, 1, 0, 0, 0), some (.istore 5, 2, 0, 0, 0), none, some (.iload 5, 2, 0, 0, 0), none, some (.bipush 7, 2, 0, 0, 0), none],
  [some (.if_icmp .ge 51, 3, 0, 0, 0), none, none, some (.aload_n 0, 1, 0, 0, 0), some (.invokevirtual 168, 3, 151, 884, 0), none, none, some (.aload_n 0, 1, 0, 0, 0), some (.aload_n 0, 1, 0, 0, 0), some (.getfield 28, 3, 4, 7, 648), none, none, some (.iload_n 1, 1, 0, 0, 0), some (.iload 5, 2, 0, 0, 0), none, some (.invokevirtual 161, 3, 134, 852, 0)]]
noncomputable def tb_161_1 : List (List (Option INS)) := [[none, none, some (.pop, 1, 0, 0, 0), some (.iload 4, 2, 0, 0, 0), none, some (.aload_n 0, 1, 0, 0, 0), some (.aload_n 0, 1, 0, 0, 0), some (.getfield 28, 3, 4, 7, 648), none, none, some (.iload_n 1, 1, 0, 0, 0), some (.iload_n 2, 1, 0, 0, 0), some (.invokevirtual 181, 3, 155, 902, 0), none, none, some (.ifCond .eq 10, 3, 0, 0, 0)],
  [none, none, some (.iconst 1, 1, 0, 0, 0), some (.iload 5, 2, 0, 0, 0), none, some (.ishl, 1, 0, 0, 0), some (.goto 4, 3, 0, 0, 0), none, none, some (.iconst 0, 1, 0, 0, 0), some (.ior, 1, 0, 0, 0), some (.istore 4, 2, 0, 0, 0), none, some (.iinc 5 1, 3, 0, 0, 0), none, none],
  [some (.goto (-52), 3, 0, 0, 0), none, none, some (.iload 4, 2, 0, 0, 0), none, some (.ireturn, 1, 0, 0, 0)]]
noncomputable def tb_161 : List (List (Option INS)) := tb_161_0 ++ (tb_161_1)
noncomputable def tb_162_0 : List (List (Option INS)) := [[some (.aload_n 0, 1, 0, 0, 0), some (.iload_n 1, 1, 0, 0, 0), some (.iconst 0, 1, 0, 0, 0), some (.bipush 16, 2, 0, 0, 0), none, some (.iconst 0, 1, 0, 0, 0), some (.bipush 27, 2, 0, 0, 0), none, some (.invokevirtual 164, 3, 153, 880, 0), none, none, some (.istore_n 2, 1, 0, 0, 0), some (.aload_n 0, 1, 0, 0, 0), some (.getfield 7, 3, 4, 0, 641), none, none],
  [some (.iload_n 1, 1, 0, 0, 0), some (.iaload, 1, 0, 0, 0), some (.ifCond .le 17, 3, 0, 0, 0), none, none, some (.aload_n 0, 1, 0, 0, 0), some (.getfield 7, 3, 4, 0, 641), none, none, some (.iload_n 1, 1, 0, 0, 0), some (.iaload, 1, 0, 0, 0), some (.iconst 2, 1, 0, 0, 0), some (.irem, 1, 0, 0, 0), some (.iconst 1, 1, 0, 0, 0), some (.if_icmp .ne 5, 3, 0, 0, 0), none],
  [none, some (.iconst 5, 1, 0, 0, 0), some (.ireturn, 1, 0, 0, 0), some (.iconst 0, 1, 0, 0, 0), some (.istore_n 3, 1, 0, 0, 0), some (.iload_n 3, 1, 0, 0, 0), some (.aload_n 0, 1, 0, 0, 0), some (.getfield 7, 3, 4, 0, 641), none, none, some (.iload_n 1, 1, 0, 0, 0), some (.iaload, 1, 0, 0, 0), some (.if_icmp .ge 35, 3, 0, 0, 0), none, none, some (.iload_n 2, 1, 0, 0, 0)],
  [some (.ifCond .ne 31, 3, 0, 0, 0), none, none, some (.aload_n 0, 1, 0, 0, 0), some (.getfield 13, 3, 4, 1, 642), none, none, some (.bipush 40, 2, 0, 0, 0), none, some (.iload_n 1, 1, 0, 0, 0), some (.imul, 1, 0, 0, 0), some (.iload_n 3, 1, 0, 0, 0), some (.iadd, 1, 0, 0, 0), some (.iaload, 1, 0, 0, 0), some (.bipush 6, 2, 0, 0, 0), none]]
noncomputable def tb_162_1 : List (List (Option INS)) := [[some (.if_icmp .le 7, 3, 0, 0, 0), none, none, some (.iconst 3, 1, 0, 0, 0), some (.goto 4, 3, 0, 0, 0), none, none, some (.iconst 0, 1, 0, 0, 0), some (.istore_n 2, 1, 0, 0, 0), some (.iinc 3 2, 3, 0, 0, 0), none, none, some (.goto (-39), 3, 0, 0, 0), none, none, some (.iload_n 2, 1, 0, 0, 0)],
  [some (.ireturn, 1, 0, 0, 0)]]
noncomputable def tb_162 : List (List (Option INS)) := tb_162_0 ++ (tb_162_1)
noncomputable def tb_163_0 : List (List (Option INS)) := [[some (.aload_n 0, 1, 0, 0, 0), some (.getfield 22, 3, 4, 5, 646), none, none, some (.iload_n 1, 1, 0, 0, 0), some (.iaload, 1, 0, 0, 0), some (.istore_n 3, 1, 0, 0, 0), some (.iconst 0, 1, 0, 0, 0), some (.istore 4, 2, 0, 0, 0), none, some (.iconst 0, 1, 0, 0, 0), some (.istore 5, 2, 0, 0, 0), none, some (.iload 5, 2, 0, 0, 0), none, some (.bipush 6, 2, 0, 0, 0)],
  [none, some (.if_icmp .ge 121, 3, 0, 0, 0), none, none, some (.iconst 1, 1, 0, 0, 0), some (.istore 6, 2, 0, 0, 0), none, some (.aload_n 0, 1, 0, 0, 0), some (.getfield 22, 3, 4, 5, 646), none, none, some (.iload_n 1, 1, 0, 0, 0), some (.iload 5, 2, 0, 0, 0), none, some (.iastore, 1, 0, 0, 0), some (.aload_n 0, 1, 0, 0, 0)],
  [some (.invokevirtual 168, 3, 151, 884, 0), none, none, some (.iconst 0, 1, 0, 0, 0), some (.istore 7, 2, 0, 0, 0), none, some (.iload 7, 2, 0, 0, 0), none, some (.aload_n 0, 1, 0, 0, 0), some (.getfield 7, 3, 4, 0, 641), none, none, some (.iload_n 2, 1, 0, 0, 0), some (.iaload, 1, 0, 0, 0), some (.if_icmp .ge 68, 3, 0, 0, 0), none],
  [none, some (.aload_n 0, 1, 0, 0, 0), some (.aload_n 0, 1, 0, 0, 0), some (.getfield 28, 3, 4, 7, 648), none, none, some (.iload_n 1, 1, 0, 0, 0), some (.aload_n 0, 1, 0, 0, 0), some (.getfield 13, 3, 4, 1, 642), none, none, some (.bipush 40, 2, 0, 0, 0), none, some (.iload_n 2, 1, 0, 0, 0), some (.imul, 1, 0, 0, 0), some (.iload 7, 2, 0, 0, 0)]]
noncomputable def tb_163_1 : List (List (Option INS)) := [[none, some (.iadd, 1, 0, 0, 0), some (.iaload, 1, 0, 0, 0), some (.invokevirtual 161, 3, 134, 852, 0), none, none, some (.pop, 1, 0, 0, 0), some (.iload 6, 2, 0, 0, 0), none, some (.ifCond .eq 32, 3, 0, 0, 0), none, none, some (.aload_n 0, 1, 0, 0, 0), some (.getfield 28, 3, 4, 7, 648), none, none],
  [some (.iload_n 1, 1, 0, 0, 0), some (.invokestatic 129, 3, 135, 806, 0), none, none, some (.aload_n 0, 1, 0, 0, 0), some (.getfield 13, 3, 4, 1, 642), none, none, some (.bipush 40, 2, 0, 0, 0), none, some (.iload_n 2, 1, 0, 0, 0), some (.imul, 1, 0, 0, 0), some (.iload 7, 2, 0, 0, 0), none, some (.iadd, 1, 0, 0, 0), some (.iconst 1, 1, 0, 0, 0)],
  [some (.iadd, 1, 0, 0, 0), some (.iaload, 1, 0, 0, 0), some (.if_icmp .ne 7, 3, 0, 0, 0), none, none, some (.iconst 1, 1, 0, 0, 0), some (.goto 4, 3, 0, 0, 0), none, none, some (.iconst 0, 1, 0, 0, 0), some (.istore 6, 2, 0, 0, 0), none, some (.iinc 7 2, 3, 0, 0, 0), none, none, some (.goto (-73), 3, 0, 0, 0)],
  [none, none, some (.iload 4, 2, 0, 0, 0), none, some (.iload 6, 2, 0, 0, 0), none, some (.ifCond .eq 10, 3, 0, 0, 0), none, none, some (.iconst 1, 1, 0, 0, 0), some (.iload 5, 2, 0, 0, 0), none, some (.ishl, 1, 0, 0, 0), some (.goto 4, 3, 0, 0, 0), none, none]]
noncomputable def tb_163_2 : List (List (Option INS)) := [[some (.iconst 0, 1, 0, 0, 0), some (.ior, 1, 0, 0, 0), some (.istore 4, 2, 0, 0, 0), none, some (.iinc 5 1, 3, 0, 0, 0), none, none, some (.goto (-122), 3, 0, 0, 0), none, none, some (.aload_n 0, 1, 0, 0, 0), some (.getfield 22, 3, 4, 5, 646), none, none, some (.iload_n 1, 1, 0, 0, 0), some (.iload_n 3, 1, 0, 0, 0)],
  [some (.iastore, 1, 0, 0, 0), some (.iload 4, 2, 0, 0, 0), none, some (.ireturn, 1, 0, 0, 0)]]
noncomputable def tb_163 : List (List (Option INS)) := tb_163_0 ++ (tb_163_1 ++ (tb_163_2))
noncomputable def tb_164 : List (List (Option INS)) := [[some (.aload_n 0, 1, 0, 0, 0), some (.iload_n 1, 1, 0, 0, 0), some (.invokevirtual 143, 3, 114, 794, 0), none, none, some (.ifCond .eq 10, 3, 0, 0, 0), none, none, some (.iload_n 2, 1, 0, 0, 0), some (.invokestatic 80, 3, 115, 719, 0), none, none, some (.ifCond .ne 5, 3, 0, 0, 0), none, none, some (.iconst (-1), 1, 0, 0, 0)],
  [some (.ireturn, 1, 0, 0, 0), some (.aload_n 0, 1, 0, 0, 0), some (.iload_n 2, 1, 0, 0, 0), some (.invokevirtual 191, 3, 162, 922, 0), none, none, some (.istore_n 3, 1, 0, 0, 0), some (.iload_n 3, 1, 0, 0, 0), some (.ifCond .eq 11, 3, 0, 0, 0), none, none, some (.aload_n 0, 1, 0, 0, 0), some (.iload_n 3, 1, 0, 0, 0), some (.invokevirtual 84, 3, 112, 725, 0), none, none],
  [some (.goto 9, 3, 0, 0, 0), none, none, some (.aload_n 0, 1, 0, 0, 0), some (.iload_n 1, 1, 0, 0, 0), some (.iload_n 2, 1, 0, 0, 0), some (.invokevirtual 194, 3, 163, 926, 0), none, none, some (.ireturn, 1, 0, 0, 0)]]
noncomputable def tb_165_0 : List (List (Option INS)) := [[some (.aload_n 0, 1, 0, 0, 0), some (.getfield 22, 3, 4, 5, 646), none, none, some (.iload_n 1, 1, 0, 0, 0), some (.iaload, 1, 0, 0, 0), some (.istore 4, 2, 0, 0, 0), none, some (.iconst 0, 1, 0, 0, 0), some (.istore 5, 2, 0, 0, 0), none, some (.iload 5, 2, 0, 0, 0), none, some (.bipush 6, 2, 0, 0, 0), none, some (.if_icmp .ge 47, 3, 0, 0, 0)],
  [none, none, some (.aload_n 0, 1, 0, 0, 0), some (.getfield 22, 3, 4, 5, 646), none, none, some (.iload_n 1, 1, 0, 0, 0), some (.iload 5, 2, 0, 0, 0), none, some (.iastore, 1, 0, 0, 0), some (.aload_n 0, 1, 0, 0, 0), some (.invokevirtual 168, 3, 151, 884, 0), none, none, some (.aload_n 0, 1, 0, 0, 0), some (.aload_n 0, 1, 0, 0, 0)],
  [some (.getfield 28, 3, 4, 7, 648), none, none, some (.iload_n 1, 1, 0, 0, 0), some (.iload_n 3, 1, 0, 0, 0), some (.invokevirtual 161, 3, 134, 852, 0), none, none, some (.pop, 1, 0, 0, 0), some (.aload_n 0, 1, 0, 0, 0), some (.getfield 57, 3, 4, 21, 662), none, none, some (.iload 5, 2, 0, 0, 0), none, some (.aload_n 0, 1, 0, 0, 0)],
  [some (.getfield 28, 3, 4, 7, 648), none, none, some (.iload_n 1, 1, 0, 0, 0), some (.invokestatic 129, 3, 135, 806, 0), none, none, some (.iastore, 1, 0, 0, 0), some (.iinc 5 1, 3, 0, 0, 0), none, none, some (.goto (-48), 3, 0, 0, 0), none, none, some (.aload_n 0, 1, 0, 0, 0), some (.getfield 22, 3, 4, 5, 646)]]
noncomputable def tb_165_1 : List (List (Option INS)) := [[none, none, some (.iload_n 1, 1, 0, 0, 0), some (.iload 4, 2, 0, 0, 0), none, some (.iastore, 1, 0, 0, 0), some (.iconst 0, 1, 0, 0, 0), some (.istore 5, 2, 0, 0, 0), none, some (.iconst 0, 1, 0, 0, 0), some (.istore 6, 2, 0, 0, 0), none, some (.iload 6, 2, 0, 0, 0), none, some (.bipush 6, 2, 0, 0, 0), none],
  [some (.if_icmp .ge 91, 3, 0, 0, 0), none, none, some (.iconst 0, 1, 0, 0, 0), some (.istore 7, 2, 0, 0, 0), none, some (.iconst 0, 1, 0, 0, 0), some (.istore 8, 2, 0, 0, 0), none, some (.iload 8, 2, 0, 0, 0), none, some (.bipush 6, 2, 0, 0, 0), none, some (.if_icmp .ge 56, 3, 0, 0, 0), none, none],
  [some (.iload 7, 2, 0, 0, 0), none, some (.iload_n 2, 1, 0, 0, 0), some (.iload 6, 2, 0, 0, 0), none, some (.ishr, 1, 0, 0, 0), some (.iconst 1, 1, 0, 0, 0), some (.iand, 1, 0, 0, 0), some (.iconst 1, 1, 0, 0, 0), some (.if_icmp .ne 34, 3, 0, 0, 0), none, none, some (.iload_n 2, 1, 0, 0, 0), some (.iload 8, 2, 0, 0, 0), none, some (.ishr, 1, 0, 0, 0)],
  [some (.iconst 1, 1, 0, 0, 0), some (.iand, 1, 0, 0, 0), some (.iconst 1, 1, 0, 0, 0), some (.if_icmp .ne 24, 3, 0, 0, 0), none, none, some (.aload_n 0, 1, 0, 0, 0), some (.getfield 57, 3, 4, 21, 662), none, none, some (.iload 6, 2, 0, 0, 0), none, some (.iaload, 1, 0, 0, 0), some (.aload_n 0, 1, 0, 0, 0), some (.getfield 57, 3, 4, 21, 662), none]]
noncomputable def tb_165_2 : List (List (Option INS)) := [[none, some (.iload 8, 2, 0, 0, 0), none, some (.iaload, 1, 0, 0, 0), some (.if_icmp .ne 7, 3, 0, 0, 0), none, none, some (.iconst 1, 1, 0, 0, 0), some (.goto 4, 3, 0, 0, 0), none, none, some (.iconst 0, 1, 0, 0, 0), some (.iadd, 1, 0, 0, 0), some (.istore 7, 2, 0, 0, 0), none, some (.iinc 8 1, 3, 0, 0, 0)],
  [none, none, some (.goto (-57), 3, 0, 0, 0), none, none, some (.iload 7, 2, 0, 0, 0), none, some (.iload 5, 2, 0, 0, 0), none, some (.if_icmp .le 8, 3, 0, 0, 0), none, none, some (.iload 7, 2, 0, 0, 0), none, some (.goto 5, 3, 0, 0, 0), none],
  [none, some (.iload 5, 2, 0, 0, 0), none, some (.istore 5, 2, 0, 0, 0), none, some (.iinc 6 1, 3, 0, 0, 0), none, none, some (.goto (-92), 3, 0, 0, 0), none, none, some (.iload 5, 2, 0, 0, 0), none, some (.ireturn, 1, 0, 0, 0)]]
noncomputable def tb_165 : List (List (Option INS)) := tb_165_0 ++ (tb_165_1 ++ (tb_165_2))
noncomputable def tb_166_0 : List (List (Option INS)) := [[some (.aload_n 0, 1, 0, 0, 0), some (.iload_n 1, 1, 0, 0, 0), some (.invokevirtual 143, 3, 114, 794, 0), none, none, some (.ifCond .eq 10, 3, 0, 0, 0), none, none, some (.iload_n 2, 1, 0, 0, 0), some (.invokestatic 80, 3, 115, 719, 0), none, none, some (.ifCond .ne 5, 3, 0, 0, 0), none, none, some (.iconst (-1), 1, 0, 0, 0)],
  [some (.ireturn, 1, 0, 0, 0), some (.aload_n 0, 1, 0, 0, 0), some (.iload_n 2, 1, 0, 0, 0), some (.invokevirtual 191, 3, 162, 922, 0), none, none, some (.istore_n 3, 1, 0, 0, 0), some (.iload_n 3, 1, 0, 0, 0), some (.ifCond .eq 9, 3, 0, 0, 0), none, none, some (.aload_n 0, 1, 0, 0, 0), some (.iload_n 3, 1, 0, 0, 0), some (.invokevirtual 84, 3, 112, 725, 0), none, none],
  [some (.ireturn, 1, 0, 0, 0), some (.aload_n 0, 1, 0, 0, 0), some (.iload_n 1, 1, 0, 0, 0), some (.iload_n 2, 1, 0, 0, 0), some (.invokevirtual 194, 3, 163, 926, 0), none, none, some (.istore 4, 2, 0, 0, 0), none, some (.iload 4, 2, 0, 0, 0), none, some (.ifCond .ne 6, 3, 0, 0, 0), none, none, some (.bipush (-9), 2, 0, 0, 0), none],
  [some (.ireturn, 1, 0, 0, 0), some (.iconst 0, 1, 0, 0, 0), some (.istore 5, 2, 0, 0, 0), none, some (.bipush 7, 2, 0, 0, 0), none, some (.istore 6, 2, 0, 0, 0), none, some (.iconst 0, 1, 0, 0, 0), some (.istore 7, 2, 0, 0, 0), none, some (.iload 7, 2, 0, 0, 0), none, some (.bipush 7, 2, 0, 0, 0), none, some (.if_icmp .ge 52, 3, 0, 0, 0)]]
noncomputable def tb_166_1 : List (List (Option INS)) := [[none, none, some (.aload_n 0, 1, 0, 0, 0), some (.iload_n 1, 1, 0, 0, 0), some (.iload 4, 2, 0, 0, 0), none, some (.iload 7, 2, 0, 0, 0), none, some (.invokevirtual 197, 3, 165, 934, 0), none, none, some (.istore 8, 2, 0, 0, 0), none, some (.iload 8, 2, 0, 0, 0), none, some (.iload 6, 2, 0, 0, 0)],
  [none, some (.if_icmp .ge 8, 3, 0, 0, 0), none, none, some (.iload 7, 2, 0, 0, 0), none, some (.goto 5, 3, 0, 0, 0), none, none, some (.iload 5, 2, 0, 0, 0), none, some (.istore 5, 2, 0, 0, 0), none, some (.iload 8, 2, 0, 0, 0), none, some (.iload 6, 2, 0, 0, 0)],
  [none, some (.if_icmp .ge 8, 3, 0, 0, 0), none, none, some (.iload 8, 2, 0, 0, 0), none, some (.goto 5, 3, 0, 0, 0), none, none, some (.iload 6, 2, 0, 0, 0), none, some (.istore 6, 2, 0, 0, 0), none, some (.iinc 7 1, 3, 0, 0, 0), none, none],
  [some (.goto (-53), 3, 0, 0, 0), none, none, some (.aload_n 0, 1, 0, 0, 0), some (.iload 6, 2, 0, 0, 0), none, some (.iload 5, 2, 0, 0, 0), none, some (.invokevirtual 96, 3, 113, 741, 0), none, none, some (.ireturn, 1, 0, 0, 0)]]
noncomputable def tb_166 : List (List (Option INS)) := tb_166_0 ++ (tb_166_1)
noncomputable def tb_167 : List (List (Option INS)) := [[some (.iconst 0, 1, 0, 0, 0), some (.istore_n 2, 1, 0, 0, 0), some (.iconst 0, 1, 0, 0, 0), some (.istore_n 3, 1, 0, 0, 0), some (.iload_n 3, 1, 0, 0, 0), some (.aload_n 0, 1, 0, 0, 0), some (.getfield 73, 3, 4, 4, 645), none, none, some (.if_icmp .ge 30, 3, 0, 0, 0), none, none, some (.iload_n 2, 1, 0, 0, 0), some (.iload_n 1, 1, 0, 0, 0), some (.iload_n 3, 1, 0, 0, 0), some (.ishr, 1, 0, 0, 0)],
  [some (.iconst 1, 1, 0, 0, 0), some (.iand, 1, 0, 0, 0), some (.iconst 1, 1, 0, 0, 0), some (.if_icmp .ne 11, 3, 0, 0, 0), none, none, some (.aload_n 0, 1, 0, 0, 0), some (.iload_n 3, 1, 0, 0, 0), some (.invokevirtual 137, 3, 138, 802, 0), none, none, some (.goto 4, 3, 0, 0, 0), none, none, some (.iconst 0, 1, 0, 0, 0), some (.iadd, 1, 0, 0, 0)],
  [some (.istore_n 2, 1, 0, 0, 0), some (.iinc 3 1, 3, 0, 0, 0), none, none, some (.goto (-32), 3, 0, 0, 0), none, none, some (.iload_n 2, 1, 0, 0, 0), some (.ireturn, 1, 0, 0, 0)]]
noncomputable def tb_168_0 : List (List (Option INS)) := [[some (.iload_n 1, 1, 0, 0, 0), some (.iconst 0, 1, 0, 0, 0), some (.bipush 99, 2, 0, 0, 0), none, some (.invokestatic 76, 3, 109, 722, 0), none, none, some (.ifCond .ne 5, 3, 0, 0, 0), none, none, some (.iconst (-1), 1, 0, 0, 0), some (.ireturn, 1, 0, 0, 0), some (.aload_n 0, 1, 0, 0, 0), some (.getfield 73, 3, 4, 4, 645), none, none],
  [some (.ifCond .ne 6, 3, 0, 0, 0), none, none, some (.bipush (-4), 2, 0, 0, 0), none, some (.ireturn, 1, 0, 0, 0), some (.iconst 1, 1, 0, 0, 0), some (.aload_n 0, 1, 0, 0, 0), some (.getfield 73, 3, 4, 4, 645), none, none, some (.ishl, 1, 0, 0, 0), some (.iconst 1, 1, 0, 0, 0), some (.isub, 1, 0, 0, 0), some (.istore_n 2, 1, 0, 0, 0), some (.iconst 0, 1, 0, 0, 0)],
  [some (.istore_n 3, 1, 0, 0, 0), some (.iload_n 3, 1, 0, 0, 0), some (.aload_n 0, 1, 0, 0, 0), some (.getfield 73, 3, 4, 4, 645), none, none, some (.if_icmp .ge 21, 3, 0, 0, 0), none, none, some (.aload_n 0, 1, 0, 0, 0), some (.iload_n 3, 1, 0, 0, 0), some (.invokevirtual 137, 3, 138, 802, 0), none, none, some (.iload_n 1, 1, 0, 0, 0), some (.if_icmp .le 6, 3, 0, 0, 0)],
  [none, none, some (.bipush (-9), 2, 0, 0, 0), none, some (.ireturn, 1, 0, 0, 0), some (.iinc 3 1, 3, 0, 0, 0), none, none, some (.goto (-23), 3, 0, 0, 0), none, none, some (.aload_n 0, 1, 0, 0, 0), some (.getfield 60, 3, 4, 22, 663), none, none, some (.iconst 0, 1, 0, 0, 0)]]
noncomputable def tb_168_1 : List (List (Option INS)) := [[some (.iconst 0, 1, 0, 0, 0), some (.iastore, 1, 0, 0, 0), some (.iconst 1, 1, 0, 0, 0), some (.istore_n 3, 1, 0, 0, 0), some (.iload_n 3, 1, 0, 0, 0), some (.iload_n 2, 1, 0, 0, 0), some (.if_icmp .gt 92, 3, 0, 0, 0), none, none, some (.aload_n 0, 1, 0, 0, 0), some (.getfield 60, 3, 4, 22, 663), none, none, some (.iload_n 3, 1, 0, 0, 0), some (.bipush 99, 2, 0, 0, 0), none],
  [some (.iastore, 1, 0, 0, 0), some (.iconst 1, 1, 0, 0, 0), some (.istore 4, 2, 0, 0, 0), none, some (.iload 4, 2, 0, 0, 0), none, some (.iload_n 3, 1, 0, 0, 0), some (.if_icmp .gt 69, 3, 0, 0, 0), none, none, some (.iload 4, 2, 0, 0, 0), none, some (.iload_n 3, 1, 0, 0, 0), some (.iconst (-1), 1, 0, 0, 0), some (.ixor, 1, 0, 0, 0), some (.iand, 1, 0, 0, 0)],
  [some (.ifCond .ne 54, 3, 0, 0, 0), none, none, some (.aload_n 0, 1, 0, 0, 0), some (.iload 4, 2, 0, 0, 0), none, some (.invokevirtual 200, 3, 167, 942, 0), none, none, some (.iload_n 1, 1, 0, 0, 0), some (.if_icmp .gt 44, 3, 0, 0, 0), none, none, some (.aload_n 0, 1, 0, 0, 0), some (.getfield 60, 3, 4, 22, 663), none],
  [none, some (.iload_n 3, 1, 0, 0, 0), some (.iload 4, 2, 0, 0, 0), none, some (.iconst (-1), 1, 0, 0, 0), some (.ixor, 1, 0, 0, 0), some (.iand, 1, 0, 0, 0), some (.iaload, 1, 0, 0, 0), some (.iconst 1, 1, 0, 0, 0), some (.iadd, 1, 0, 0, 0), some (.aload_n 0, 1, 0, 0, 0), some (.getfield 60, 3, 4, 22, 663), none, none, some (.iload_n 3, 1, 0, 0, 0), some (.iaload, 1, 0, 0, 0)]]
noncomputable def tb_168_2 : List (List (Option INS)) := [[some (.if_icmp .ge 22, 3, 0, 0, 0), none, none, some (.aload_n 0, 1, 0, 0, 0), some (.getfield 60, 3, 4, 22, 663), none, none, some (.iload_n 3, 1, 0, 0, 0), some (.aload_n 0, 1, 0, 0, 0), some (.getfield 60, 3, 4, 22, 663), none, none, some (.iload_n 3, 1, 0, 0, 0), some (.iload 4, 2, 0, 0, 0), none, some (.iconst (-1), 1, 0, 0, 0)],
  [some (.ixor, 1, 0, 0, 0), some (.iand, 1, 0, 0, 0), some (.iaload, 1, 0, 0, 0), some (.iconst 1, 1, 0, 0, 0), some (.iadd, 1, 0, 0, 0), some (.iastore, 1, 0, 0, 0), some (.iinc 4 1, 3, 0, 0, 0), none, none, some (.goto (-69), 3, 0, 0, 0), none, none, some (.iinc 3 1, 3, 0, 0, 0), none, none, some (.goto (-91), 3, 0, 0, 0)],
  [none, none, some (.iconst 1, 1, 0, 0, 0), some (.istore_n 3, 1, 0, 0, 0), some (.aload_n 0, 1, 0, 0, 0), some (.iload_n 3, 1, 0, 0, 0), some (.invokevirtual 200, 3, 167, 942, 0), none, none, some (.iload_n 1, 1, 0, 0, 0), some (.if_icmp .gt 24, 3, 0, 0, 0), none, none, some (.aload_n 0, 1, 0, 0, 0), some (.getfield 60, 3, 4, 22, 663), none],
  [none, some (.iload_n 2, 1, 0, 0, 0), some (.iload_n 3, 1, 0, 0, 0), some (.iconst (-1), 1, 0, 0, 0), some (.ixor, 1, 0, 0, 0), some (.iand, 1, 0, 0, 0), some (.iaload, 1, 0, 0, 0), some (.iconst 1, 1, 0, 0, 0), some (.iadd, 1, 0, 0, 0), some (.aload_n 0, 1, 0, 0, 0), some (.getfield 60, 3, 4, 22, 663), none, none, some (.iload_n 2, 1, 0, 0, 0), some (.iaload, 1, 0, 0, 0), some (.if_icmp .eq 9, 3, 0, 0, 0)]]
noncomputable def tb_168_3 : List (List (Option INS)) := [[none, none, some (.iinc 3 2, 3, 0, 0, 0), none, none, some (.goto (-33), 3, 0, 0, 0), none, none, some (.aload_n 0, 1, 0, 0, 0), some (.iload_n 3, 1, 0, 0, 0), some (.aload_n 0, 1, 0, 0, 0), some (.getfield 60, 3, 4, 22, 663), none, none, some (.iload_n 2, 1, 0, 0, 0), some (.iaload, 1, 0, 0, 0)],
  [some (.invokevirtual 96, 3, 113, 741, 0), none, none, some (.ireturn, 1, 0, 0, 0)]]
noncomputable def tb_168 : List (List (Option INS)) := tb_168_0 ++ (tb_168_1 ++ (tb_168_2 ++ (tb_168_3)))
noncomputable def tb_169_0 : List (List (Option INS)) := [[some (.iload_n 1, 1, 0, 0, 0), some (.iconst 0, 1, 0, 0, 0), some (.sipush 180, 3, 0, 0, 0), none, none, some (.invokestatic 76, 3, 109, 722, 0), none, none, some (.ifCond .ne 5, 3, 0, 0, 0), none, none, some (.iconst (-1), 1, 0, 0, 0), some (.ireturn, 1, 0, 0, 0), some (.aload_n 0, 1, 0, 0, 0), some (.getfield 73, 3, 4, 4, 645), none],
  [none, some (.ifCond .ne 6, 3, 0, 0, 0), none, none, some (.bipush (-4), 2, 0, 0, 0), none, some (.ireturn, 1, 0, 0, 0), some (.iconst 0, 1, 0, 0, 0), some (.istore_n 2, 1, 0, 0, 0), some (.bipush (-9), 2, 0, 0, 0), none, some (.istore_n 3, 1, 0, 0, 0), some (.iconst 1, 1, 0, 0, 0), some (.aload_n 0, 1, 0, 0, 0), some (.getfield 73, 3, 4, 4, 645), none],
  [none, some (.ishl, 1, 0, 0, 0), some (.iconst 1, 1, 0, 0, 0), some (.isub, 1, 0, 0, 0), some (.istore 4, 2, 0, 0, 0), none, some (.iload 4, 2, 0, 0, 0), none, some (.ifCond .lt 25, 3, 0, 0, 0), none, none, some (.aload_n 0, 1, 0, 0, 0), some (.iload 4, 2, 0, 0, 0), none, some (.invokevirtual 200, 3, 167, 942, 0), none],
  [none, some (.iload_n 1, 1, 0, 0, 0), some (.if_icmp .ne 9, 3, 0, 0, 0), none, none, some (.iinc 2 1, 3, 0, 0, 0), none, none, some (.iload 4, 2, 0, 0, 0), none, some (.istore_n 3, 1, 0, 0, 0), some (.iinc 4 (-1), 3, 0, 0, 0), none, none, some (.goto (-24), 3, 0, 0, 0), none]]
noncomputable def tb_169_1 : List (List (Option INS)) := [[none, some (.aload_n 0, 1, 0, 0, 0), some (.iload_n 2, 1, 0, 0, 0), some (.i2l, 1, 0, 0, 0), some (.lconst 1, 1, 0, 0, 0), some (.invokevirtual 187, 3, 159, 910, 0), none, none, some (.pop, 1, 0, 0, 0), some (.aload_n 0, 1, 0, 0, 0), some (.iload_n 3, 1, 0, 0, 0), some (.iconst 1, 1, 0, 0, 0), some (.invokevirtual 96, 3, 113, 741, 0), none, none, some (.ireturn, 1, 0, 0, 0)]]
noncomputable def tb_169 : List (List (Option INS)) := tb_169_0 ++ (tb_169_1)
noncomputable def tb_170_0 : List (List (Option INS)) := [[some (.iload_n 1, 1, 0, 0, 0), some (.iconst 0, 1, 0, 0, 0), some (.sipush 180, 3, 0, 0, 0), none, none, some (.invokestatic 76, 3, 109, 722, 0), none, none, some (.ifCond .ne 5, 3, 0, 0, 0), none, none, some (.iconst (-1), 1, 0, 0, 0), some (.ireturn, 1, 0, 0, 0), some (.aload_n 0, 1, 0, 0, 0), some (.getfield 73, 3, 4, 4, 645), none],
  [none, some (.ifCond .ne 6, 3, 0, 0, 0), none, none, some (.bipush (-4), 2, 0, 0, 0), none, some (.ireturn, 1, 0, 0, 0), some (.iconst 1, 1, 0, 0, 0), some (.aload_n 0, 1, 0, 0, 0), some (.getfield 73, 3, 4, 4, 645), none, none, some (.ishl, 1, 0, 0, 0), some (.iconst 1, 1, 0, 0, 0), some (.isub, 1, 0, 0, 0), some (.istore_n 2, 1, 0, 0, 0)],
  [some (.iload_n 2, 1, 0, 0, 0), some (.istore_n 3, 1, 0, 0, 0), some (.iconst 0, 1, 0, 0, 0), some (.istore 4, 2, 0, 0, 0), none, some (.iconst 0, 1, 0, 0, 0), some (.istore 5, 2, 0, 0, 0), none, some (.iconst 0, 1, 0, 0, 0), some (.istore 6, 2, 0, 0, 0), none, some (.iload 6, 2, 0, 0, 0), none, some (.iload_n 2, 1, 0, 0, 0), some (.if_icmp .gt 34, 3, 0, 0, 0), none],
  [none, some (.aload_n 0, 1, 0, 0, 0), some (.iload 6, 2, 0, 0, 0), none, some (.invokevirtual 200, 3, 167, 942, 0), none, none, some (.iload_n 1, 1, 0, 0, 0), some (.if_icmp .ne 18, 3, 0, 0, 0), none, none, some (.iconst 1, 1, 0, 0, 0), some (.istore 5, 2, 0, 0, 0), none, some (.iload_n 3, 1, 0, 0, 0), some (.iload 6, 2, 0, 0, 0)]]
noncomputable def tb_170_1 : List (List (Option INS)) := [[none, some (.iand, 1, 0, 0, 0), some (.istore_n 3, 1, 0, 0, 0), some (.iload 4, 2, 0, 0, 0), none, some (.iload 6, 2, 0, 0, 0), none, some (.ior, 1, 0, 0, 0), some (.istore 4, 2, 0, 0, 0), none, some (.iinc 6 1, 3, 0, 0, 0), none, none, some (.goto (-34), 3, 0, 0, 0), none, none],
  [some (.iload 5, 2, 0, 0, 0), none, some (.ifCond .eq 17, 3, 0, 0, 0), none, none, some (.aload_n 0, 1, 0, 0, 0), some (.iload_n 2, 1, 0, 0, 0), some (.iload 4, 2, 0, 0, 0), none, some (.iconst (-1), 1, 0, 0, 0), some (.ixor, 1, 0, 0, 0), some (.iand, 1, 0, 0, 0), some (.iload_n 3, 1, 0, 0, 0), some (.invokevirtual 96, 3, 113, 741, 0), none, none],
  [some (.goto 8, 3, 0, 0, 0), none, none, some (.aload_n 0, 1, 0, 0, 0), some (.iconst 4, 1, 0, 0, 0), some (.invokevirtual 84, 3, 112, 725, 0), none, none, some (.ireturn, 1, 0, 0, 0)]]
noncomputable def tb_170 : List (List (Option INS)) := tb_170_0 ++ (tb_170_1)
noncomputable def tb_171_0 : List (List (Option INS)) := [[some (.aload_n 0, 1, 0, 0, 0), some (.iload_n 1, 1, 0, 0, 0), some (.invokevirtual 143, 3, 114, 794, 0), none, none, some (.ifCond .eq 16, 3, 0, 0, 0), none, none, some (.aload_n 0, 1, 0, 0, 0), some (.iload_n 2, 1, 0, 0, 0), some (.invokevirtual 143, 3, 114, 794, 0), none, none, some (.ifCond .eq 8, 3, 0, 0, 0), none, none],
  [some (.iload_n 1, 1, 0, 0, 0), some (.iload_n 2, 1, 0, 0, 0), some (.if_icmp .ne 5, 3, 0, 0, 0), none, none, some (.iconst (-1), 1, 0, 0, 0), some (.ireturn, 1, 0, 0, 0), some (.iconst 0, 1, 0, 0, 0), some (.istore_n 3, 1, 0, 0, 0), some (.bipush (-9), 2, 0, 0, 0), none, some (.istore 4, 2, 0, 0, 0), none, some (.bipush 48, 2, 0, 0, 0), none, some (.istore 5, 2, 0, 0, 0)],
  [none, some (.iload 5, 2, 0, 0, 0), none, some (.ifCond .lt 81, 3, 0, 0, 0), none, none, some (.aload_n 0, 1, 0, 0, 0), some (.invokevirtual 168, 3, 151, 884, 0), none, none, some (.aload_n 0, 1, 0, 0, 0), some (.aload_n 0, 1, 0, 0, 0), some (.getfield 28, 3, 4, 7, 648), none, none, some (.iload_n 1, 1, 0, 0, 0)],
  [some (.iload 5, 2, 0, 0, 0), none, some (.bipush 7, 2, 0, 0, 0), none, some (.idiv, 1, 0, 0, 0), some (.invokevirtual 161, 3, 134, 852, 0), none, none, some (.pop, 1, 0, 0, 0), some (.aload_n 0, 1, 0, 0, 0), some (.aload_n 0, 1, 0, 0, 0), some (.getfield 28, 3, 4, 7, 648), none, none, some (.iload_n 2, 1, 0, 0, 0), some (.iload 5, 2, 0, 0, 0)]]
noncomputable def tb_171_1 : List (List (Option INS)) := [[none, some (.bipush 7, 2, 0, 0, 0), none, some (.irem, 1, 0, 0, 0), some (.invokevirtual 161, 3, 134, 852, 0), none, none, some (.pop, 1, 0, 0, 0), some (.aload_n 0, 1, 0, 0, 0), some (.getfield 28, 3, 4, 7, 648), none, none, some (.iload_n 1, 1, 0, 0, 0), some (.invokestatic 171, 3, 136, 888, 0), none, none],
  [some (.aload_n 0, 1, 0, 0, 0), some (.getfield 28, 3, 4, 7, 648), none, none, some (.iload_n 2, 1, 0, 0, 0), some (.invokestatic 171, 3, 136, 888, 0), none, none, some (.if_icmp .ne 22, 3, 0, 0, 0), none, none, some (.iinc 3 1, 3, 0, 0, 0), none, none, some (.bipush 10, 2, 0, 0, 0), none],
  [some (.iload 5, 2, 0, 0, 0), none, some (.bipush 7, 2, 0, 0, 0), none, some (.idiv, 1, 0, 0, 0), some (.imul, 1, 0, 0, 0), some (.iload 5, 2, 0, 0, 0), none, some (.bipush 7, 2, 0, 0, 0), none, some (.irem, 1, 0, 0, 0), some (.iadd, 1, 0, 0, 0), some (.istore 4, 2, 0, 0, 0), none, some (.iinc 5 (-1), 3, 0, 0, 0), none],
  [none, some (.goto (-80), 3, 0, 0, 0), none, none, some (.iload_n 3, 1, 0, 0, 0), some (.ifCond .ne 8, 3, 0, 0, 0), none, none, some (.bipush (-9), 2, 0, 0, 0), none, some (.goto 10, 3, 0, 0, 0), none, none, some (.aload_n 0, 1, 0, 0, 0), some (.iload 4, 2, 0, 0, 0), none]]
noncomputable def tb_171_2 : List (List (Option INS)) := [[some (.iload_n 3, 1, 0, 0, 0), some (.invokevirtual 96, 3, 113, 741, 0), none, none, some (.ireturn, 1, 0, 0, 0)]]
noncomputable def tb_171 : List (List (Option INS)) := tb_171_0 ++ (tb_171_1 ++ (tb_171_2))
noncomputable def tb_172_0 : List (List (Option INS)) := [[some (.aload_n 0, 1, 0, 0, 0), some (.iload_n 1, 1, 0, 0, 0), some (.invokevirtual 143, 3, 114, 794, 0), none, none, some (.ifCond .eq 25, 3, 0, 0, 0), none, none, some (.aload_n 0, 1, 0, 0, 0), some (.iload_n 2, 1, 0, 0, 0), some (.invokevirtual 143, 3, 114, 794, 0), none, none, some (.ifCond .eq 17, 3, 0, 0, 0), none, none],
  [some (.iload_n 1, 1, 0, 0, 0), some (.iload_n 2, 1, 0, 0, 0), some (.if_icmp .eq 12, 3, 0, 0, 0), none, none, some (.iload_n 3, 1, 0, 0, 0), some (.iconst 0, 1, 0, 0, 0), some (.iconst 2, 1, 0, 0, 0), some (.invokestatic 76, 3, 109, 722, 0), none, none, some (.ifCond .ne 5, 3, 0, 0, 0), none, none, some (.iconst (-1), 1, 0, 0, 0), some (.ireturn, 1, 0, 0, 0)],
  [some (.iconst 0, 1, 0, 0, 0), some (.istore 4, 2, 0, 0, 0), none, some (.iload 4, 2, 0, 0, 0), none, some (.iconst 2, 1, 0, 0, 0), some (.iload_n 3, 1, 0, 0, 0), some (.imul, 1, 0, 0, 0), some (.invokestatic 174, 3, 156, 895, 0), none, none, some (.if_icmp .ge 105, 3, 0, 0, 0), none, none, some (.iconst 1, 1, 0, 0, 0), some (.istore 5, 2, 0, 0, 0)],
  [none, some (.aload_n 0, 1, 0, 0, 0), some (.invokevirtual 168, 3, 151, 884, 0), none, none, some (.iconst 2, 1, 0, 0, 0), some (.iload_n 3, 1, 0, 0, 0), some (.imul, 1, 0, 0, 0), some (.invokestatic 174, 3, 156, 895, 0), none, none, some (.bipush 7, 2, 0, 0, 0), none, some (.idiv, 1, 0, 0, 0), some (.istore 6, 2, 0, 0, 0), none]]
noncomputable def tb_172_1 : List (List (Option INS)) := [[some (.iload 6, 2, 0, 0, 0), none, some (.ifCond .le 52, 3, 0, 0, 0), none, none, some (.aload_n 0, 1, 0, 0, 0), some (.aload_n 0, 1, 0, 0, 0), some (.getfield 28, 3, 4, 7, 648), none, none, some (.iload 5, 2, 0, 0, 0), none, some (.ifCond .eq 7, 3, 0, 0, 0), none, none, some (.iload_n 1, 1, 0, 0, 0)],
  [some (.goto 4, 3, 0, 0, 0), none, none, some (.iload_n 2, 1, 0, 0, 0), some (.iload 4, 2, 0, 0, 0), none, some (.iload 6, 2, 0, 0, 0), none, some (.idiv, 1, 0, 0, 0), some (.bipush 7, 2, 0, 0, 0), none, some (.irem, 1, 0, 0, 0), some (.invokevirtual 161, 3, 134, 852, 0), none, none, some (.pop, 1, 0, 0, 0)],
  [some (.iload 5, 2, 0, 0, 0), none, some (.ifCond .ne 7, 3, 0, 0, 0), none, none, some (.iconst 1, 1, 0, 0, 0), some (.goto 4, 3, 0, 0, 0), none, none, some (.iconst 0, 1, 0, 0, 0), some (.istore 5, 2, 0, 0, 0), none, some (.iload 6, 2, 0, 0, 0), none, some (.bipush 7, 2, 0, 0, 0), none],
  [some (.idiv, 1, 0, 0, 0), some (.istore 6, 2, 0, 0, 0), none, some (.goto (-51), 3, 0, 0, 0), none, none, some (.aload_n 0, 1, 0, 0, 0), some (.getfield 63, 3, 4, 23, 664), none, none, some (.iload 4, 2, 0, 0, 0), none, some (.aload_n 0, 1, 0, 0, 0), some (.getfield 28, 3, 4, 7, 648), none, none]]
noncomputable def tb_172_2 : List (List (Option INS)) := [[some (.iload_n 1, 1, 0, 0, 0), some (.invokestatic 129, 3, 135, 806, 0), none, none, some (.aload_n 0, 1, 0, 0, 0), some (.getfield 28, 3, 4, 7, 648), none, none, some (.iload_n 2, 1, 0, 0, 0), some (.invokestatic 129, 3, 135, 806, 0), none, none, some (.isub, 1, 0, 0, 0), some (.iastore, 1, 0, 0, 0), some (.iinc 4 1, 3, 0, 0, 0), none],
  [none, some (.goto (-110), 3, 0, 0, 0), none, none, some (.iconst 2, 1, 0, 0, 0), some (.iload_n 3, 1, 0, 0, 0), some (.imul, 1, 0, 0, 0), some (.iconst 1, 1, 0, 0, 0), some (.isub, 1, 0, 0, 0), some (.istore 4, 2, 0, 0, 0), none, some (.iload 4, 2, 0, 0, 0), none, some (.ifCond .lt 116, 3, 0, 0, 0), none, none],
  [some (.iconst 0, 1, 0, 0, 0), some (.istore 5, 2, 0, 0, 0), none, some (.iload 5, 2, 0, 0, 0), none, some (.iload 4, 2, 0, 0, 0), none, some (.invokestatic 174, 3, 156, 895, 0), none, none, some (.if_icmp .ge 97, 3, 0, 0, 0), none, none, some (.aload_n 0, 1, 0, 0, 0), some (.getfield 63, 3, 4, 23, 664), none],
  [none, some (.bipush 7, 2, 0, 0, 0), none, some (.iload 5, 2, 0, 0, 0), none, some (.imul, 1, 0, 0, 0), some (.iaload, 1, 0, 0, 0), some (.istore 6, 2, 0, 0, 0), none, some (.iconst 1, 1, 0, 0, 0), some (.istore 7, 2, 0, 0, 0), none, some (.iload 7, 2, 0, 0, 0), none, some (.bipush 7, 2, 0, 0, 0), none]]
noncomputable def tb_172_3 : List (List (Option INS)) := [[some (.if_icmp .ge 60, 3, 0, 0, 0), none, none, some (.aload_n 0, 1, 0, 0, 0), some (.getfield 63, 3, 4, 23, 664), none, none, some (.bipush 7, 2, 0, 0, 0), none, some (.iload 5, 2, 0, 0, 0), none, some (.imul, 1, 0, 0, 0), some (.iload 7, 2, 0, 0, 0), none, some (.iadd, 1, 0, 0, 0), some (.iaload, 1, 0, 0, 0)],
  [some (.istore 8, 2, 0, 0, 0), none, some (.iload 4, 2, 0, 0, 0), none, some (.iconst 2, 1, 0, 0, 0), some (.irem, 1, 0, 0, 0), some (.ifCond .ne 7, 3, 0, 0, 0), none, none, some (.iconst 1, 1, 0, 0, 0), some (.goto 4, 3, 0, 0, 0), none, none, some (.iconst 0, 1, 0, 0, 0), some (.iload 8, 2, 0, 0, 0), none],
  [some (.iload 6, 2, 0, 0, 0), none, some (.if_icmp .le 7, 3, 0, 0, 0), none, none, some (.iconst 1, 1, 0, 0, 0), some (.goto 4, 3, 0, 0, 0), none, none, some (.iconst 0, 1, 0, 0, 0), some (.if_icmp .ne 8, 3, 0, 0, 0), none, none, some (.iload 8, 2, 0, 0, 0), none, some (.goto 5, 3, 0, 0, 0)],
  [none, none, some (.iload 6, 2, 0, 0, 0), none, some (.istore 6, 2, 0, 0, 0), none, some (.iinc 7 1, 3, 0, 0, 0), none, none, some (.goto (-61), 3, 0, 0, 0), none, none, some (.aload_n 0, 1, 0, 0, 0), some (.getfield 63, 3, 4, 23, 664), none, none]]
noncomputable def tb_172_4 : List (List (Option INS)) := [[some (.iload 5, 2, 0, 0, 0), none, some (.iload 6, 2, 0, 0, 0), none, some (.iastore, 1, 0, 0, 0), some (.iinc 5 1, 3, 0, 0, 0), none, none, some (.goto (-101), 3, 0, 0, 0), none, none, some (.iinc 4 (-1), 3, 0, 0, 0), none, none, some (.goto (-115), 3, 0, 0, 0), none],
  [none, some (.aload_n 0, 1, 0, 0, 0), some (.aload_n 0, 1, 0, 0, 0), some (.getfield 63, 3, 4, 23, 664), none, none, some (.iconst 0, 1, 0, 0, 0), some (.iaload, 1, 0, 0, 0), some (.iconst 1, 1, 0, 0, 0), some (.invokevirtual 96, 3, 113, 741, 0), none, none, some (.ireturn, 1, 0, 0, 0)]]
noncomputable def tb_172 : List (List (Option INS)) := tb_172_0 ++ (tb_172_1 ++ (tb_172_2 ++ (tb_172_3 ++ (tb_172_4))))
noncomputable def tb_173_0 : List (List (Option INS)) := [[some (.lconst 0, 1, 0, 0, 0), some (.lstore 5, 2, 0, 0, 0), none, some (.lconst 0, 1, 0, 0, 0), some (.lstore 7, 2, 0, 0, 0), none, some (.iconst 0, 1, 0, 0, 0), some (.istore 9, 2, 0, 0, 0), none, some (.iload 9, 2, 0, 0, 0), none, some (.iconst 1, 1, 0, 0, 0), some (.aload_n 0, 1, 0, 0, 0), some (.getfield 7, 3, 4, 0, 641), none, none],
  [some (.iload_n 2, 1, 0, 0, 0), some (.iaload, 1, 0, 0, 0), some (.ishl, 1, 0, 0, 0), some (.if_icmp .ge 158, 3, 0, 0, 0), none, none, some (.lconst 1, 1, 0, 0, 0), some (.lstore 10, 2, 0, 0, 0), none, some (.aload_n 0, 1, 0, 0, 0), some (.invokevirtual 168, 3, 151, 884, 0), none, none, some (.iconst 0, 1, 0, 0, 0), some (.istore 12, 2, 0, 0, 0), none],
  [some (.iload 12, 2, 0, 0, 0), none, some (.aload_n 0, 1, 0, 0, 0), some (.getfield 7, 3, 4, 0, 641), none, none, some (.iload_n 2, 1, 0, 0, 0), some (.iaload, 1, 0, 0, 0), some (.if_icmp .ge 72, 3, 0, 0, 0), none, none, some (.iload 9, 2, 0, 0, 0), none, some (.iload 12, 2, 0, 0, 0), none, some (.ishr, 1, 0, 0, 0)],
  [some (.iconst 1, 1, 0, 0, 0), some (.iand, 1, 0, 0, 0), some (.iconst 1, 1, 0, 0, 0), some (.if_icmp .ne 23, 3, 0, 0, 0), none, none, some (.lload 10, 2, 0, 0, 0), none, some (.iload_n 3, 1, 0, 0, 0), some (.i2l, 1, 0, 0, 0), some (.lmul, 1, 0, 0, 0), some (.lstore 10, 2, 0, 0, 0), none, some (.aload_n 0, 1, 0, 0, 0), some (.getfield 28, 3, 4, 7, 648), none]]
noncomputable def tb_173_1 : List (List (Option INS)) := [[none, some (.iconst 0, 1, 0, 0, 0), some (.dup2, 1, 0, 0, 0), some (.iaload, 1, 0, 0, 0), some (.iconst 1, 1, 0, 0, 0), some (.iadd, 1, 0, 0, 0), some (.iastore, 1, 0, 0, 0), some (.goto 35, 3, 0, 0, 0), none, none, some (.lload 10, 2, 0, 0, 0), none, some (.bipush 12, 2, 0, 0, 0), none, some (.iload_n 3, 1, 0, 0, 0), some (.isub, 1, 0, 0, 0)],
  [some (.i2l, 1, 0, 0, 0), some (.lmul, 1, 0, 0, 0), some (.lstore 10, 2, 0, 0, 0), none, some (.aload_n 0, 1, 0, 0, 0), some (.aload_n 0, 1, 0, 0, 0), some (.getfield 28, 3, 4, 7, 648), none, none, some (.iload_n 1, 1, 0, 0, 0), some (.aload_n 0, 1, 0, 0, 0), some (.getfield 13, 3, 4, 1, 642), none, none, some (.bipush 40, 2, 0, 0, 0), none],
  [some (.iload_n 2, 1, 0, 0, 0), some (.imul, 1, 0, 0, 0), some (.iload 12, 2, 0, 0, 0), none, some (.iadd, 1, 0, 0, 0), some (.iaload, 1, 0, 0, 0), some (.invokevirtual 161, 3, 134, 852, 0), none, none, some (.pop, 1, 0, 0, 0), some (.iinc 12 1, 3, 0, 0, 0), none, none, some (.goto (-77), 3, 0, 0, 0), none, none],
  [some (.lload 7, 2, 0, 0, 0), none, some (.lload 10, 2, 0, 0, 0), none, some (.ladd, 1, 0, 0, 0), some (.lstore 7, 2, 0, 0, 0), none, some (.lload 5, 2, 0, 0, 0), none, some (.iload 4, 2, 0, 0, 0), none, some (.ifCond .eq 33, 3, 0, 0, 0), none, none, some (.aload_n 0, 1, 0, 0, 0), some (.getfield 28, 3, 4, 7, 648)]]
noncomputable def tb_173_2 : List (List (Option INS)) := [[none, none, some (.bipush 19, 2, 0, 0, 0), none, some (.iload_n 1, 1, 0, 0, 0), some (.iadd, 1, 0, 0, 0), some (.iaload, 1, 0, 0, 0), some (.aload_n 0, 1, 0, 0, 0), some (.getfield 25, 3, 4, 6, 647), none, none, some (.bipush 19, 2, 0, 0, 0), none, some (.iload_n 1, 1, 0, 0, 0), some (.iadd, 1, 0, 0, 0), some (.iaload, 1, 0, 0, 0)],
  [some (.if_icmp .ne 7, 3, 0, 0, 0), none, none, some (.lconst 0, 1, 0, 0, 0), some (.goto 20, 3, 0, 0, 0), none, none, some (.lload 10, 2, 0, 0, 0), none, some (.goto 15, 3, 0, 0, 0), none, none, some (.lload 10, 2, 0, 0, 0), none, some (.aload_n 0, 1, 0, 0, 0), some (.getfield 28, 3, 4, 7, 648)],
  [none, none, some (.iload_n 1, 1, 0, 0, 0), some (.invokestatic 129, 3, 135, 806, 0), none, none, some (.i2l, 1, 0, 0, 0), some (.lmul, 1, 0, 0, 0), some (.ladd, 1, 0, 0, 0), some (.lstore 5, 2, 0, 0, 0), none, some (.iinc 9 1, 3, 0, 0, 0), none, none, some (.goto (-165), 3, 0, 0, 0), none],
  [none, some (.aload_n 0, 1, 0, 0, 0), some (.lload 5, 2, 0, 0, 0), none, some (.lload 7, 2, 0, 0, 0), none, some (.invokevirtual 187, 3, 159, 910, 0), none, none, some (.ireturn, 1, 0, 0, 0)]]
noncomputable def tb_173 : List (List (Option INS)) := tb_173_0 ++ (tb_173_1 ++ (tb_173_2))
noncomputable def tb_174 : List (List (Option INS)) := [[some (.aload_n 0, 1, 0, 0, 0), some (.iload_n 1, 1, 0, 0, 0), some (.invokevirtual 143, 3, 114, 794, 0), none, none, some (.ifCond .eq 20, 3, 0, 0, 0), none, none, some (.iload_n 2, 1, 0, 0, 0), some (.invokestatic 80, 3, 115, 719, 0), none, none, some (.ifCond .eq 13, 3, 0, 0, 0), none, none, some (.iload_n 3, 1, 0, 0, 0)],
  [some (.iconst 0, 1, 0, 0, 0), some (.bipush 12, 2, 0, 0, 0), none, some (.invokestatic 76, 3, 109, 722, 0), none, none, some (.ifCond .ne 5, 3, 0, 0, 0), none, none, some (.iconst (-1), 1, 0, 0, 0), some (.ireturn, 1, 0, 0, 0), some (.aload_n 0, 1, 0, 0, 0), some (.iload_n 2, 1, 0, 0, 0), some (.iconst 1, 1, 0, 0, 0), some (.bipush 6, 2, 0, 0, 0), none],
  [some (.iconst 0, 1, 0, 0, 0), some (.bipush 6, 2, 0, 0, 0), none, some (.invokevirtual 164, 3, 153, 880, 0), none, none, some (.istore 4, 2, 0, 0, 0), none, some (.iload 4, 2, 0, 0, 0), none, some (.ifCond .eq 12, 3, 0, 0, 0), none, none, some (.aload_n 0, 1, 0, 0, 0), some (.iload 4, 2, 0, 0, 0), none],
  [some (.invokevirtual 84, 3, 112, 725, 0), none, none, some (.goto 11, 3, 0, 0, 0), none, none, some (.aload_n 0, 1, 0, 0, 0), some (.iload_n 1, 1, 0, 0, 0), some (.iload_n 2, 1, 0, 0, 0), some (.iload_n 3, 1, 0, 0, 0), some (.iconst 1, 1, 0, 0, 0), some (.invokevirtual 203, 3, 173, 966, 0), none, none, some (.ireturn, 1, 0, 0, 0)]]
noncomputable def tb_175 : List (List (Option INS)) := [[some (.aload_n 0, 1, 0, 0, 0), some (.iload_n 1, 1, 0, 0, 0), some (.invokevirtual 143, 3, 114, 794, 0), none, none, some (.ifCond .eq 20, 3, 0, 0, 0), none, none, some (.iload_n 2, 1, 0, 0, 0), some (.invokestatic 80, 3, 115, 719, 0), none, none, some (.ifCond .eq 13, 3, 0, 0, 0), none, none, some (.iload_n 3, 1, 0, 0, 0)],
  [some (.iconst 0, 1, 0, 0, 0), some (.bipush 12, 2, 0, 0, 0), none, some (.invokestatic 76, 3, 109, 722, 0), none, none, some (.ifCond .ne 5, 3, 0, 0, 0), none, none, some (.iconst (-1), 1, 0, 0, 0), some (.ireturn, 1, 0, 0, 0), some (.aload_n 0, 1, 0, 0, 0), some (.iload_n 2, 1, 0, 0, 0), some (.iconst 1, 1, 0, 0, 0), some (.bipush 6, 2, 0, 0, 0), none],
  [some (.iconst 0, 1, 0, 0, 0), some (.bipush 6, 2, 0, 0, 0), none, some (.invokevirtual 164, 3, 153, 880, 0), none, none, some (.istore 4, 2, 0, 0, 0), none, some (.iload 4, 2, 0, 0, 0), none, some (.ifCond .eq 12, 3, 0, 0, 0), none, none, some (.aload_n 0, 1, 0, 0, 0), some (.iload 4, 2, 0, 0, 0), none],
  [some (.invokevirtual 84, 3, 112, 725, 0), none, none, some (.goto 11, 3, 0, 0, 0), none, none, some (.aload_n 0, 1, 0, 0, 0), some (.iload_n 1, 1, 0, 0, 0), some (.iload_n 2, 1, 0, 0, 0), some (.iload_n 3, 1, 0, 0, 0), some (.iconst 0, 1, 0, 0, 0), some (.invokevirtual 203, 3, 173, 966, 0), none, none, some (.ireturn, 1, 0, 0, 0)]]
noncomputable def tb_176 : List (List (Option INS)) := [[some (.iconst 0, 1, 0, 0, 0), some (.istore_n 1, 1, 0, 0, 0), some (.iconst 0, 1, 0, 0, 0), some (.istore_n 2, 1, 0, 0, 0), some (.iload_n 2, 1, 0, 0, 0), some (.aload_n 0, 1, 0, 0, 0), some (.getfield 73, 3, 4, 4, 645), none, none, some (.if_icmp .ge 23, 3, 0, 0, 0), none, none, some (.iload_n 1, 1, 0, 0, 0), some (.aload_n 0, 1, 0, 0, 0), some (.getfield 25, 3, 4, 6, 647), none],
  [none, some (.bipush 19, 2, 0, 0, 0), none, some (.iload_n 2, 1, 0, 0, 0), some (.iadd, 1, 0, 0, 0), some (.iaload, 1, 0, 0, 0), some (.iload_n 2, 1, 0, 0, 0), some (.ishl, 1, 0, 0, 0), some (.ior, 1, 0, 0, 0), some (.istore_n 1, 1, 0, 0, 0), some (.iinc 2 1, 3, 0, 0, 0), none, none, some (.goto (-25), 3, 0, 0, 0), none, none],
  [some (.iload_n 1, 1, 0, 0, 0), some (.ireturn, 1, 0, 0, 0)]]
noncomputable def tb_177_0 : List (List (Option INS)) := [[some (.iload_n 1, 1, 0, 0, 0), some (.iconst 1, 1, 0, 0, 0), some (.bipush 20, 2, 0, 0, 0), none, some (.invokestatic 76, 3, 109, 722, 0), none, none, some (.ifCond .eq 13, 3, 0, 0, 0), none, none, some (.iload_n 2, 1, 0, 0, 0), some (.iconst 1, 1, 0, 0, 0), some (.ldc 207, 2, 978, 0, 2147483646), none, some (.invokestatic 76, 3, 109, 722, 0), none],
  [none, some (.ifCond .ne 5, 3, 0, 0, 0), none, none, some (.iconst (-1), 1, 0, 0, 0), some (.ireturn, 1, 0, 0, 0), some (.aload_n 0, 1, 0, 0, 0), some (.getfield 73, 3, 4, 4, 645), none, none, some (.ifCond .ne 6, 3, 0, 0, 0), none, none, some (.bipush (-4), 2, 0, 0, 0), none, some (.ireturn, 1, 0, 0, 0)],
  [some (.aload_n 0, 1, 0, 0, 0), some (.getfield 115, 3, 4, 9, 650), none, none, some (.iload_n 1, 1, 0, 0, 0), some (.iadd, 1, 0, 0, 0), some (.bipush 40, 2, 0, 0, 0), none, some (.if_icmp .le 6, 3, 0, 0, 0), none, none, some (.bipush (-2), 2, 0, 0, 0), none, some (.ireturn, 1, 0, 0, 0), some (.iload_n 2, 1, 0, 0, 0), some (.i2l, 1, 0, 0, 0)],
  [some (.lstore_n 3, 1, 0, 0, 0), some (.iconst 0, 1, 0, 0, 0), some (.istore 5, 2, 0, 0, 0), none, some (.iload 5, 2, 0, 0, 0), none, some (.iload_n 1, 1, 0, 0, 0), some (.if_icmp .ge 99, 3, 0, 0, 0), none, none, some (.lload_n 3, 1, 0, 0, 0), some (.ldc2_w 208, 3, 979, 0, 48271), none, none, some (.lmul, 1, 0, 0, 0), some (.ldc2_w 210, 3, 980, 0, 2147483647)]]
noncomputable def tb_177_1 : List (List (Option INS)) := [[none, none, some (.lrem, 1, 0, 0, 0), some (.lstore_n 3, 1, 0, 0, 0), some (.lload_n 3, 1, 0, 0, 0), some (.l2i, 1, 0, 0, 0), some (.istore 6, 2, 0, 0, 0), none, some (.iload 6, 2, 0, 0, 0), none, some (.aload_n 0, 1, 0, 0, 0), some (.getfield 73, 3, 4, 4, 645), none, none, some (.irem, 1, 0, 0, 0), some (.istore 7, 2, 0, 0, 0)],
  [none, some (.aload_n 0, 1, 0, 0, 0), some (.invokevirtual 158, 3, 145, 848, 0), none, none, some (.iload 6, 2, 0, 0, 0), none, some (.bipush 8, 2, 0, 0, 0), none, some (.idiv, 1, 0, 0, 0), some (.bipush 8, 2, 0, 0, 0), none, some (.irem, 1, 0, 0, 0), some (.bipush 7, 2, 0, 0, 0), none, some (.if_icmp .ne 34, 3, 0, 0, 0)],
  [none, none, some (.aload_n 0, 1, 0, 0, 0), some (.getfield 25, 3, 4, 6, 647), none, none, some (.iconst 1, 1, 0, 0, 0), some (.iconst 3, 1, 0, 0, 0), some (.iload 7, 2, 0, 0, 0), none, some (.imul, 1, 0, 0, 0), some (.iadd, 1, 0, 0, 0), some (.iload 6, 2, 0, 0, 0), none, some (.bipush 64, 2, 0, 0, 0), none],
  [some (.idiv, 1, 0, 0, 0), some (.iconst 3, 1, 0, 0, 0), some (.irem, 1, 0, 0, 0), some (.iadd, 1, 0, 0, 0), some (.iload 6, 2, 0, 0, 0), none, some (.sipush 256, 3, 0, 0, 0), none, none, some (.idiv, 1, 0, 0, 0), some (.bipush 10, 2, 0, 0, 0), none, some (.irem, 1, 0, 0, 0), some (.iastore, 1, 0, 0, 0), some (.goto 22, 3, 0, 0, 0), none]]
noncomputable def tb_177_2 : List (List (Option INS)) := [[none, some (.aload_n 0, 1, 0, 0, 0), some (.aload_n 0, 1, 0, 0, 0), some (.getfield 25, 3, 4, 6, 647), none, none, some (.iload 7, 2, 0, 0, 0), none, some (.iload 6, 2, 0, 0, 0), none, some (.bipush 8, 2, 0, 0, 0), none, some (.idiv, 1, 0, 0, 0), some (.bipush 7, 2, 0, 0, 0), none, some (.irem, 1, 0, 0, 0)],
  [some (.invokevirtual 161, 3, 134, 852, 0), none, none, some (.pop, 1, 0, 0, 0), some (.iinc 5 1, 3, 0, 0, 0), none, none, some (.goto (-99), 3, 0, 0, 0), none, none, some (.aload_n 0, 1, 0, 0, 0), some (.invokevirtual 212, 3, 176, 981, 0), none, none, some (.ireturn, 1, 0, 0, 0)]]
noncomputable def tb_177 : List (List (Option INS)) := tb_177_0 ++ (tb_177_1 ++ (tb_177_2))
noncomputable def tb_178 : List (List (Option INS)) := [[some (.aload_n 0, 1, 0, 0, 0), some (.getfield 70, 3, 4, 12, 653), none, none, some (.ireturn, 1, 0, 0, 0)]]
noncomputable def tb_179 : List (List (Option INS)) := [[some (.aload_n 0, 1, 0, 0, 0), some (.getfield 184, 3, 4, 13, 654), none, none, some (.lreturn, 1, 0, 0, 0)]]
noncomputable def tb_180 : List (List (Option INS)) := [[some (.aload_n 0, 1, 0, 0, 0), some (.getfield 41, 3, 4, 14, 655), none, none, some (.lreturn, 1, 0, 0, 0)]]
noncomputable def tb_181 : List (List (Option INS)) := [[some (.iconst 0, 1, 0, 0, 0), some (.istore_n 1, 1, 0, 0, 0), some (.iconst 0, 1, 0, 0, 0), some (.istore_n 2, 1, 0, 0, 0), some (.iload_n 2, 1, 0, 0, 0), some (.aload_n 0, 1, 0, 0, 0), some (.arraylength, 1, 0, 0, 0), some (.if_icmp .ge 23, 3, 0, 0, 0), none, none, some (.iload_n 1, 1, 0, 0, 0), some (.aload_n 0, 1, 0, 0, 0), some (.iload_n 2, 1, 0, 0, 0), some (.iaload, 1, 0, 0, 0), some (.ifCond .ge 7, 3, 0, 0, 0), none],
  [none, some (.iconst 0, 1, 0, 0, 0), some (.goto 4, 3, 0, 0, 0), none, none, some (.iconst 1, 1, 0, 0, 0), some (.iadd, 1, 0, 0, 0), some (.istore_n 1, 1, 0, 0, 0), some (.iinc 2 1, 3, 0, 0, 0), none, none, some (.goto (-23), 3, 0, 0, 0), none, none, some (.iload_n 1, 1, 0, 0, 0), some (.ireturn, 1, 0, 0, 0)]]
noncomputable def tb_182 : List (List (Option INS)) := [[some (.iconst 0, 1, 0, 0, 0), some (.istore_n 1, 1, 0, 0, 0), some (.iconst 0, 1, 0, 0, 0), some (.istore_n 2, 1, 0, 0, 0), some (.iload_n 2, 1, 0, 0, 0), some (.iconst 3, 1, 0, 0, 0), some (.if_icmp .ge 26, 3, 0, 0, 0), none, none, some (.iload_n 1, 1, 0, 0, 0), some (.aload_n 0, 1, 0, 0, 0), some (.getfield 37, 3, 4, 11, 652), none, none, some (.iload_n 2, 1, 0, 0, 0), some (.baload, 1, 0, 0, 0)],
  [some (.ifCond .eq 7, 3, 0, 0, 0), none, none, some (.iconst 1, 1, 0, 0, 0), some (.goto 4, 3, 0, 0, 0), none, none, some (.iconst 0, 1, 0, 0, 0), some (.iadd, 1, 0, 0, 0), some (.istore_n 1, 1, 0, 0, 0), some (.iinc 2 1, 3, 0, 0, 0), none, none, some (.goto (-25), 3, 0, 0, 0), none, none],
  [some (.iload_n 1, 1, 0, 0, 0), some (.ireturn, 1, 0, 0, 0)]]
noncomputable def tb_183 : List (List (Option INS)) := [[some (.iconst 0, 1, 0, 0, 0), some (.istore_n 2, 1, 0, 0, 0), some (.iconst 0, 1, 0, 0, 0), some (.istore_n 3, 1, 0, 0, 0), some (.iload_n 3, 1, 0, 0, 0), some (.aload_n 0, 1, 0, 0, 0), some (.getfield 73, 3, 4, 4, 645), none, none, some (.if_icmp .ge 26, 3, 0, 0, 0), none, none, some (.iload_n 2, 1, 0, 0, 0), some (.aload_n 0, 1, 0, 0, 0), some (.iload_n 3, 1, 0, 0, 0), some (.iload_n 1, 1, 0, 0, 0)],
  [some (.invokevirtual 133, 3, 137, 809, 0), none, none, some (.ifCond .eq 7, 3, 0, 0, 0), none, none, some (.iconst 1, 1, 0, 0, 0), some (.goto 4, 3, 0, 0, 0), none, none, some (.iconst 0, 1, 0, 0, 0), some (.iadd, 1, 0, 0, 0), some (.istore_n 2, 1, 0, 0, 0), some (.iinc 3 1, 3, 0, 0, 0), none, none],
  [some (.goto (-28), 3, 0, 0, 0), none, none, some (.iload_n 2, 1, 0, 0, 0), some (.ireturn, 1, 0, 0, 0)]]
noncomputable def tb_184_0 : List (List (Option INS)) := [[some (.iload_n 1, 1, 0, 0, 0), some (.tableswitch 123 0 9 #[55, 60, 67, 72, 77, 90, 96, 102, 110, 118], 55, 0, 0, 0), none, none, none, none, none, none, none, none, none, none, none, none, none, none],
  [none, none, none, none, none, none, none, none, none, none, none, none, none, none, none, none],
  [none, none, none, none, none, none, none, none, none, none, none, none, none, none, none, none],
  [none, none, none, none, none, none, none, none, some (.aload_n 0, 1, 0, 0, 0), some (.getfield 73, 3, 4, 4, 645), none, none, some (.ireturn, 1, 0, 0, 0), some (.aload_n 0, 1, 0, 0, 0), some (.getfield 25, 3, 4, 6, 647), none]]
noncomputable def tb_184_1 : List (List (Option INS)) := [[none, some (.iconst 0, 1, 0, 0, 0), some (.iaload, 1, 0, 0, 0), some (.ireturn, 1, 0, 0, 0), some (.aload_n 0, 1, 0, 0, 0), some (.getfield 115, 3, 4, 9, 650), none, none, some (.ireturn, 1, 0, 0, 0), some (.aload_n 0, 1, 0, 0, 0), some (.invokevirtual 212, 3, 176, 981, 0), none, none, some (.ireturn, 1, 0, 0, 0), some (.aload_n 0, 1, 0, 0, 0), some (.iconst 1, 1, 0, 0, 0)],
  [some (.aload_n 0, 1, 0, 0, 0), some (.getfield 73, 3, 4, 4, 645), none, none, some (.ishl, 1, 0, 0, 0), some (.iconst 1, 1, 0, 0, 0), some (.isub, 1, 0, 0, 0), some (.invokevirtual 200, 3, 167, 942, 0), none, none, some (.ireturn, 1, 0, 0, 0), some (.aload_n 0, 1, 0, 0, 0), some (.iconst 1, 1, 0, 0, 0), some (.invokevirtual 216, 3, 183, 1001, 0), none, none],
  [some (.ireturn, 1, 0, 0, 0), some (.aload_n 0, 1, 0, 0, 0), some (.iconst 2, 1, 0, 0, 0), some (.invokevirtual 216, 3, 183, 1001, 0), none, none, some (.ireturn, 1, 0, 0, 0), some (.aload_n 0, 1, 0, 0, 0), some (.getfield 7, 3, 4, 0, 641), none, none, some (.invokestatic 219, 3, 181, 1005, 0), none, none, some (.ireturn, 1, 0, 0, 0), some (.aload_n 0, 1, 0, 0, 0)],
  [some (.getfield 16, 3, 4, 2, 643), none, none, some (.invokestatic 219, 3, 181, 1005, 0), none, none, some (.ireturn, 1, 0, 0, 0), some (.aload_n 0, 1, 0, 0, 0), some (.invokevirtual 223, 3, 182, 1008, 0), none, none, some (.ireturn, 1, 0, 0, 0), some (.iconst (-1), 1, 0, 0, 0), some (.ireturn, 1, 0, 0, 0)]]
noncomputable def tb_184 : List (List (Option INS)) := tb_184_0 ++ (tb_184_1)
noncomputable def tb_185 : List (List (Option INS)) := [[some (.aload_n 0, 1, 0, 0, 0), some (.getfield 66, 3, 4, 15, 656), none, none, some (.ireturn, 1, 0, 0, 0)]]
noncomputable def tb_186 : List (List (Option INS)) := [[some (.iload_n 1, 1, 0, 0, 0), some (.iconst 1, 1, 0, 0, 0), some (.iconst 5, 1, 0, 0, 0), some (.invokestatic 76, 3, 109, 722, 0), none, none, some (.ifCond .eq 12, 3, 0, 0, 0), none, none, some (.aload_n 0, 1, 0, 0, 0), some (.getfield 45, 3, 4, 16, 657), none, none, some (.iload_n 1, 1, 0, 0, 0), some (.iaload, 1, 0, 0, 0), some (.goto 4, 3, 0, 0, 0)],
  [none, none, some (.iconst (-1), 1, 0, 0, 0), some (.ireturn, 1, 0, 0, 0)]]
noncomputable def tb_187_0 : List (List (Option INS)) := [[some (.ldc2_w 226, 3, 1024, 0, 17), none, none, some (.lstore_n 1, 1, 0, 0, 0), some (.iconst 0, 1, 0, 0, 0), some (.istore_n 3, 1, 0, 0, 0), some (.iload_n 3, 1, 0, 0, 0), some (.bipush 10, 2, 0, 0, 0), none, some (.if_icmp .ge 22, 3, 0, 0, 0), none, none, some (.ldc2_w 228, 3, 1025, 0, 31), none, none, some (.lload_n 1, 1, 0, 0, 0)],
  [some (.lmul, 1, 0, 0, 0), some (.aload_n 0, 1, 0, 0, 0), some (.iload_n 3, 1, 0, 0, 0), some (.invokevirtual 230, 3, 184, 1026, 0), none, none, some (.i2l, 1, 0, 0, 0), some (.ladd, 1, 0, 0, 0), some (.lstore_n 1, 1, 0, 0, 0), some (.iinc 3 1, 3, 0, 0, 0), none, none, some (.goto (-22), 3, 0, 0, 0), none, none, some (.iconst 0, 1, 0, 0, 0)],
  [some (.istore_n 3, 1, 0, 0, 0), some (.iload_n 3, 1, 0, 0, 0), some (.aload_n 0, 1, 0, 0, 0), some (.getfield 73, 3, 4, 4, 645), none, none, some (.if_icmp .ge 40, 3, 0, 0, 0), none, none, some (.iconst 0, 1, 0, 0, 0), some (.istore 4, 2, 0, 0, 0), none, some (.iload 4, 2, 0, 0, 0), none, some (.bipush 7, 2, 0, 0, 0), none],
  [some (.if_icmp .ge 24, 3, 0, 0, 0), none, none, some (.ldc2_w 228, 3, 1025, 0, 31), none, none, some (.lload_n 1, 1, 0, 0, 0), some (.lmul, 1, 0, 0, 0), some (.aload_n 0, 1, 0, 0, 0), some (.iload_n 3, 1, 0, 0, 0), some (.iload 4, 2, 0, 0, 0), none, some (.invokevirtual 146, 3, 140, 798, 0), none, none, some (.i2l, 1, 0, 0, 0)]]
noncomputable def tb_187_1 : List (List (Option INS)) := [[some (.ladd, 1, 0, 0, 0), some (.lstore_n 1, 1, 0, 0, 0), some (.iinc 4 1, 3, 0, 0, 0), none, none, some (.goto (-25), 3, 0, 0, 0), none, none, some (.iinc 3 1, 3, 0, 0, 0), none, none, some (.goto (-42), 3, 0, 0, 0), none, none, some (.iconst 0, 1, 0, 0, 0), some (.istore_n 3, 1, 0, 0, 0)],
  [some (.iload_n 3, 1, 0, 0, 0), some (.iconst 3, 1, 0, 0, 0), some (.if_icmp .ge 40, 3, 0, 0, 0), none, none, some (.ldc2_w 228, 3, 1025, 0, 31), none, none, some (.lload_n 1, 1, 0, 0, 0), some (.lmul, 1, 0, 0, 0), some (.aload_n 0, 1, 0, 0, 0), some (.getfield 37, 3, 4, 11, 652), none, none, some (.iload_n 3, 1, 0, 0, 0), some (.baload, 1, 0, 0, 0)],
  [some (.ifCond .eq 16, 3, 0, 0, 0), none, none, some (.aload_n 0, 1, 0, 0, 0), some (.getfield 34, 3, 4, 10, 651), none, none, some (.sipush 1026, 3, 0, 0, 0), none, none, some (.iload_n 3, 1, 0, 0, 0), some (.imul, 1, 0, 0, 0), some (.iaload, 1, 0, 0, 0), some (.goto 4, 3, 0, 0, 0), none, none],
  [some (.iconst (-1), 1, 0, 0, 0), some (.i2l, 1, 0, 0, 0), some (.ladd, 1, 0, 0, 0), some (.lstore_n 1, 1, 0, 0, 0), some (.iinc 3 1, 3, 0, 0, 0), none, none, some (.goto (-39), 3, 0, 0, 0), none, none, some (.iconst 0, 1, 0, 0, 0), some (.istore_n 3, 1, 0, 0, 0), some (.iload_n 3, 1, 0, 0, 0), some (.bipush 6, 2, 0, 0, 0), none, some (.if_icmp .ge 63, 3, 0, 0, 0)]]
noncomputable def tb_187_2 : List (List (Option INS)) := [[none, none, some (.ldc2_w 228, 3, 1025, 0, 31), none, none, some (.lload_n 1, 1, 0, 0, 0), some (.lmul, 1, 0, 0, 0), some (.aload_n 0, 1, 0, 0, 0), some (.getfield 7, 3, 4, 0, 641), none, none, some (.iload_n 3, 1, 0, 0, 0), some (.iaload, 1, 0, 0, 0), some (.i2l, 1, 0, 0, 0), some (.ladd, 1, 0, 0, 0), some (.lstore_n 1, 1, 0, 0, 0)],
  [some (.iconst 0, 1, 0, 0, 0), some (.istore 4, 2, 0, 0, 0), none, some (.iload 4, 2, 0, 0, 0), none, some (.aload_n 0, 1, 0, 0, 0), some (.getfield 7, 3, 4, 0, 641), none, none, some (.iload_n 3, 1, 0, 0, 0), some (.iaload, 1, 0, 0, 0), some (.if_icmp .ge 29, 3, 0, 0, 0), none, none, some (.ldc2_w 228, 3, 1025, 0, 31), none],
  [none, some (.lload_n 1, 1, 0, 0, 0), some (.lmul, 1, 0, 0, 0), some (.aload_n 0, 1, 0, 0, 0), some (.getfield 13, 3, 4, 1, 642), none, none, some (.bipush 40, 2, 0, 0, 0), none, some (.iload_n 3, 1, 0, 0, 0), some (.imul, 1, 0, 0, 0), some (.iload 4, 2, 0, 0, 0), none, some (.iadd, 1, 0, 0, 0), some (.iaload, 1, 0, 0, 0), some (.i2l, 1, 0, 0, 0)],
  [some (.ladd, 1, 0, 0, 0), some (.lstore_n 1, 1, 0, 0, 0), some (.iinc 4 1, 3, 0, 0, 0), none, none, some (.goto (-34), 3, 0, 0, 0), none, none, some (.iinc 3 1, 3, 0, 0, 0), none, none, some (.goto (-63), 3, 0, 0, 0), none, none, some (.iconst 0, 1, 0, 0, 0), some (.istore_n 3, 1, 0, 0, 0)]]
noncomputable def tb_187_3 : List (List (Option INS)) := [[some (.iload_n 3, 1, 0, 0, 0), some (.iconst 4, 1, 0, 0, 0), some (.if_icmp .ge 63, 3, 0, 0, 0), none, none, some (.ldc2_w 228, 3, 1025, 0, 31), none, none, some (.lload_n 1, 1, 0, 0, 0), some (.lmul, 1, 0, 0, 0), some (.aload_n 0, 1, 0, 0, 0), some (.getfield 16, 3, 4, 2, 643), none, none, some (.iload_n 3, 1, 0, 0, 0), some (.iaload, 1, 0, 0, 0)],
  [some (.i2l, 1, 0, 0, 0), some (.ladd, 1, 0, 0, 0), some (.lstore_n 1, 1, 0, 0, 0), some (.iconst 0, 1, 0, 0, 0), some (.istore 4, 2, 0, 0, 0), none, some (.iload 4, 2, 0, 0, 0), none, some (.aload_n 0, 1, 0, 0, 0), some (.getfield 16, 3, 4, 2, 643), none, none, some (.iload_n 3, 1, 0, 0, 0), some (.iaload, 1, 0, 0, 0), some (.if_icmp .ge 29, 3, 0, 0, 0), none],
  [none, some (.ldc2_w 228, 3, 1025, 0, 31), none, none, some (.lload_n 1, 1, 0, 0, 0), some (.lmul, 1, 0, 0, 0), some (.aload_n 0, 1, 0, 0, 0), some (.getfield 19, 3, 4, 3, 644), none, none, some (.bipush 60, 2, 0, 0, 0), none, some (.iload_n 3, 1, 0, 0, 0), some (.imul, 1, 0, 0, 0), some (.iload 4, 2, 0, 0, 0), none],
  [some (.iadd, 1, 0, 0, 0), some (.iaload, 1, 0, 0, 0), some (.i2l, 1, 0, 0, 0), some (.ladd, 1, 0, 0, 0), some (.lstore_n 1, 1, 0, 0, 0), some (.iinc 4 1, 3, 0, 0, 0), none, none, some (.goto (-34), 3, 0, 0, 0), none, none, some (.iinc 3 1, 3, 0, 0, 0), none, none, some (.goto (-62), 3, 0, 0, 0), none]]
noncomputable def tb_187_4 : List (List (Option INS)) := [[none, some (.lload_n 1, 1, 0, 0, 0), some (.lreturn, 1, 0, 0, 0)]]
noncomputable def tb_187 : List (List (Option INS)) := tb_187_0 ++ (tb_187_1 ++ (tb_187_2 ++ (tb_187_3 ++ (tb_187_4))))
noncomputable def tb_188 : List (List (Option INS)) := [[some (.iload_n 0, 1, 0, 0, 0), some (.iload_n 0, 1, 0, 0, 0), some (.iconst 1, 1, 0, 0, 0), some (.iushr, 1, 0, 0, 0), some (.ldc_w 265, 3, 353, 0, 1431655765), none, none, some (.iand, 1, 0, 0, 0), some (.isub, 1, 0, 0, 0), some (.istore_n 0, 1, 0, 0, 0), some (.iload_n 0, 1, 0, 0, 0), some (.ldc_w 266, 3, 354, 0, 858993459), none, none, some (.iand, 1, 0, 0, 0), some (.iload_n 0, 1, 0, 0, 0)],
  [some (.iconst 2, 1, 0, 0, 0), some (.iushr, 1, 0, 0, 0), some (.ldc_w 266, 3, 354, 0, 858993459), none, none, some (.iand, 1, 0, 0, 0), some (.iadd, 1, 0, 0, 0), some (.istore_n 0, 1, 0, 0, 0), some (.iload_n 0, 1, 0, 0, 0), some (.iload_n 0, 1, 0, 0, 0), some (.iconst 4, 1, 0, 0, 0), some (.iushr, 1, 0, 0, 0), some (.iadd, 1, 0, 0, 0), some (.ldc_w 267, 3, 355, 0, 252645135), none, none],
  [some (.iand, 1, 0, 0, 0), some (.istore_n 0, 1, 0, 0, 0), some (.iload_n 0, 1, 0, 0, 0), some (.iload_n 0, 1, 0, 0, 0), some (.bipush 8, 2, 0, 0, 0), none, some (.iushr, 1, 0, 0, 0), some (.iadd, 1, 0, 0, 0), some (.istore_n 0, 1, 0, 0, 0), some (.iload_n 0, 1, 0, 0, 0), some (.iload_n 0, 1, 0, 0, 0), some (.bipush 16, 2, 0, 0, 0), none, some (.iushr, 1, 0, 0, 0), some (.iadd, 1, 0, 0, 0), some (.istore_n 0, 1, 0, 0, 0)],
  [some (.iload_n 0, 1, 0, 0, 0), some (.bipush 63, 2, 0, 0, 0), none, some (.iand, 1, 0, 0, 0), some (.ireturn, 1, 0, 0, 0)]]
noncomputable def tb_189 : List (List (Option INS)) := [[some (.iconst 0, 1, 0, 0, 0), some (.istore_n 2, 1, 0, 0, 0), some (.aload_n 0, 1, 0, 0, 0), some (.arraylength, 1, 0, 0, 0), some (.istore_n 3, 1, 0, 0, 0), some (.iload_n 2, 1, 0, 0, 0), some (.iload_n 3, 1, 0, 0, 0), some (.if_icmp .ge 13, 3, 0, 0, 0), none, none, some (.aload_n 0, 1, 0, 0, 0), some (.iload_n 2, 1, 0, 0, 0), some (.iload_n 1, 1, 0, 0, 0), some (.iastore, 1, 0, 0, 0), some (.iinc 2 1, 3, 0, 0, 0), none],
  [none, some (.goto (-12), 3, 0, 0, 0), none, none, some (.return_, 1, 0, 0, 0)]]
noncomputable def tab : List (List (List (List (Option INS)))) := [[tb_0, tb_1, tb_2, tb_3, tb_4, tb_5, tb_6, tb_7, tb_8, tb_9, tb_10, tb_11, tb_12, tb_13],
  [tb_14, tb_15, tb_16, tb_17, tb_18, tb_19, tb_20, tb_21, tb_22, tb_23, tb_24, tb_25, tb_26, tb_27],
  [tb_28, tb_29, tb_30, tb_31, tb_32, tb_33, tb_34, tb_35, tb_36, tb_37, tb_38, tb_39, tb_40, tb_41],
  [tb_42, tb_43, tb_44, tb_45, tb_46, tb_47, tb_48, tb_49, tb_50, tb_51, tb_52, tb_53, tb_54, tb_55],
  [tb_56, tb_57, tb_58, tb_59, tb_60, tb_61, tb_62, tb_63, tb_64, tb_65, tb_66, tb_67, tb_68, tb_69],
  [tb_70, tb_71, tb_72, tb_73, tb_74, tb_75, tb_76, tb_77, tb_78, tb_79, tb_80, tb_81, tb_82, tb_83],
  [tb_84, tb_85, tb_86, tb_87, tb_88, tb_89, tb_90, tb_91, tb_92, tb_93, tb_94, tb_95, tb_96, tb_97],
  [tb_98, tb_99, tb_100, tb_101, tb_102, tb_103, tb_104, tb_105, tb_106, tb_107, tb_108, tb_109, tb_110, tb_111],
  [tb_112, tb_113, tb_114, tb_115, tb_116, tb_117, tb_118, tb_119, tb_120, tb_121, tb_122, tb_123, tb_124, tb_125],
  [tb_126, tb_127, tb_128, tb_129, tb_130, tb_131, tb_132, tb_133, tb_134, tb_135, tb_136, tb_137, tb_138, tb_139],
  [tb_140, tb_141, tb_142, tb_143, tb_144, tb_145, tb_146, tb_147, tb_148, tb_149, tb_150, tb_151, tb_152, tb_153],
  [tb_154, tb_155, tb_156, tb_157, tb_158, tb_159, tb_160, tb_161, tb_162, tb_163, tb_164, tb_165, tb_166, tb_167],
  [tb_168, tb_169, tb_170, tb_171, tb_172, tb_173, tb_174, tb_175, tb_176, tb_177, tb_178, tb_179, tb_180, tb_181],
  [tb_182, tb_183, tb_184, tb_185, tb_186, tb_187, tb_188, tb_189]]
noncomputable def fetch (M pc : Nat) : Option INS := nth (nth (nth (nth tab (M / 14) []) (M % 14) []) (pc / 16) []) (pc % 16) none
noncomputable def mtb : List (List MI) := [[(x, code, 4, (some .boolean), 1, 0, 99), (⟨"FerryChange$Ferry", "<init>", "()V"⟩, prog_2_method_1_code, 1, none, 1, 2, 0), (⟨"FerryChange$Ferry", "isEmpty", "()Z"⟩, prog_2_method_2_code, 1, (some .boolean), 1, 1, 0), (⟨"FerryChange$Ferry", "clear", "()V"⟩, prog_2_method_3_code, 1, none, 1, 1, 0), (⟨"FerryChange$Ferry", "board", "(III)V"⟩, prog_2_method_4_code, 4, none, 4, 1, 0), (⟨"FerryChange$Ferry", "takeFrom", "(LFerryChange$Ferry;)V"⟩, prog_2_method_5_code, 2, none, 2, 1, 0), (⟨"FerryChange$Ferry", "hasRoomFor", "(I)Z"⟩, prog_2_method_6_code, 2, (some .boolean), 2, 1, 0), (⟨"FerryChange$Ferry", "noteDeed", "(I)V"⟩, prog_2_method_7_code, 2, none, 2, 1, 0), (⟨"FerryChange$Ferry", "takeOver", "(II)Z"⟩, prog_2_method_8_code, 4, (some .boolean), 3, 1, 0), (⟨"FerryChange$Ferry", "setByHand", "(III)V"⟩, prog_2_method_9_code, 4, none, 4, 1, 0), (⟨"FerryChange$Ferry", "doByLot", "(I)V"⟩, prog_2_method_10_code, 3, none, 2, 1, 0), (⟨"FerryChange$Ferry", "undoFrom", "(I)I"⟩, prog_2_method_11_code, 5, (some .int), 2, 1, 0), (⟨"FerryChange$Ferry", "onBankOne", "()I"⟩, prog_2_method_12_code, 3, (some .int), 1, 1, 0), (⟨"FerryChange$Ferry", "othersOnBankOf", "(I)I"⟩, prog_2_method_13_code, 4, (some .int), 2, 1, 0)],
  [(⟨"FerryChange$Ferry", "howManyOf", "(I)I"⟩, prog_2_method_14_code, 4, (some .int), 2, 1, 0), (⟨"FerryChange$Ferry", "setCount", "()I"⟩, prog_2_method_15_code, 1, (some .int), 1, 1, 0), (⟨"FerryChange$Ferry", "weightOfSet", "(I)I"⟩, prog_2_method_16_code, 4, (some .int), 2, 1, 0), (⟨"FerryChange$Ferry", "heaviest", "()I"⟩, prog_2_method_17_code, 3, (some .int), 1, 1, 0), (⟨"FerryChange$Kinds", "ofLetter", "(I)I"⟩, prog_3_method_2_code, 1, (some .int), 1, 0, 99), (⟨"FerryChange$Kinds", "isOf", "(II)Z"⟩, prog_3_method_3_code, 2, (some .boolean), 2, 0, 99), (⟨"FerryChange$Kinds", "stepOf", "(II)I"⟩, prog_3_method_4_code, 2, (some .int), 2, 0, 99), (⟨"FerryChange$Kinds", "thingOf", "(II)I"⟩, prog_3_method_5_code, 3, (some .int), 2, 0, 99), (⟨"FerryChange$Kinds", "changeOf", "(III)I"⟩, prog_3_method_6_code, 5, (some .int), 3, 0, 99), (⟨"FerryChange$Kinds", "landing", "(IIII)I"⟩, prog_3_method_7_code, 7, (some .int), 4, 0, 99), (⟨"FerryChange$Kinds", "lifeThen", "(IIII)I"⟩, prog_3_method_8_code, 5, (some .int), 4, 0, 99), (⟨"FerryChange$Kinds", "landings", "(III)I"⟩, prog_3_method_9_code, 5, (some .int), 3, 0, 99), (⟨"FerryChange$Kinds", "weightOf", "(II)I"⟩, prog_3_method_10_code, 2, (some .int), 2, 0, 99), (⟨"FerryChange$Life", "worthOf", "(I)I"⟩, prog_4_method_2_code, 1, (some .int), 1, 0, 99)],
  [(⟨"FerryChange$Life", "thing", "(II)I"⟩, prog_4_method_3_code, 2, (some .int), 2, 0, 99), (⟨"FerryChange$Life", "together", "(I)I"⟩, prog_4_method_4_code, 1, (some .int), 1, 0, 99), (⟨"FerryChange$Life", "leastThing", "(I)I"⟩, prog_4_method_5_code, 3, (some .int), 1, 0, 99), (⟨"FerryChange$Life", "isAs", "(I[I)Z"⟩, prog_4_method_6_code, 3, (some .boolean), 2, 0, 99), (⟨"FerryChange$Row", "<init>", "(I)V"⟩, prog_5_method_1_code, 2, none, 2, 2, 1), (⟨"FerryChange$Row", "isMissing", "()Z"⟩, prog_5_method_2_code, 1, (some .boolean), 1, 1, 1), (⟨"FerryChange$Row", "hasPlaces", "(II)Z"⟩, prog_5_method_3_code, 3, (some .boolean), 3, 1, 1), (⟨"FerryChange$Row", "renew", "(II)V"⟩, prog_5_method_4_code, 4, none, 3, 1, 1), (⟨"FerryChange$Row", "digestInto", "(J)J"⟩, prog_5_method_5_code, 6, (some .long), 2, 1, 1), (⟨"FerryChange$Search", "<init>", "()V"⟩, prog_6_method_1_code, 1, none, 1, 2, 2), (⟨"FerryChange", "<init>", "()V"⟩, prog_1_method_1_code, 2, none, 1, 2, 3), (⟨"FerryChange", "row", "(II)I"⟩, prog_1_method_2_code, 3, (some .int), 3, 1, 3), (⟨"FerryChange", "lay", "(III)I"⟩, prog_1_method_3_code, 5, (some .int), 4, 1, 3), (⟨"FerryChange", "at", "(II)I"⟩, prog_1_method_4_code, 4, (some .int), 3, 1, 3)],
  [(⟨"FerryChange", "tear", "(I)I"⟩, prog_1_method_5_code, 2, (some .int), 2, 1, 3), (⟨"FerryChange", "copy", "(IIIII)I"⟩, prog_1_method_6_code, 6, (some .int), 6, 1, 3), (⟨"FerryChange", "mean", "(I)I"⟩, prog_1_method_7_code, 6, (some .int), 2, 1, 3), (⟨"FerryChange", "text", "(II)I"⟩, prog_1_method_8_code, 3, (some .int), 3, 1, 3), (⟨"FerryChange", "put", "(III)I"⟩, prog_1_method_9_code, 6, (some .int), 4, 1, 3), (⟨"FerryChange", "fault", "(I)I"⟩, prog_1_method_10_code, 2, (some .int), 2, 1, 3), (⟨"FerryChange", "ferry", "(I)I"⟩, prog_1_method_11_code, 6, (some .int), 2, 1, 3), (⟨"FerryChange", "passenger", "(II)I"⟩, prog_1_method_12_code, 3, (some .int), 3, 1, 3), (⟨"FerryChange", "mark", "(II)I"⟩, prog_1_method_13_code, 4, (some .int), 3, 1, 3), (⟨"FerryChange", "cross", "(II)I"⟩, prog_1_method_14_code, 3, (some .int), 3, 1, 3), (⟨"FerryChange", "set", "(III)I"⟩, prog_1_method_15_code, 5, (some .int), 4, 1, 3), (⟨"FerryChange", "undo", "(I)I"⟩, prog_1_method_16_code, 2, (some .int), 2, 1, 3), (⟨"FerryChange", "keep", "(I)I"⟩, prog_1_method_17_code, 2, (some .int), 2, 1, 3), (⟨"FerryChange", "on", "(I)I"⟩, prog_1_method_18_code, 2, (some .int), 2, 1, 3)],
  [(⟨"FerryChange", "changes", "(III)I"⟩, prog_1_method_19_code, 4, (some .int), 4, 1, 3), (⟨"FerryChange", "run", "(II)I"⟩, prog_1_method_20_code, 9, (some .int), 3, 1, 3), (⟨"FerryChange", "fewest", "(IIII)I"⟩, prog_1_method_21_code, 7, (some .int), 5, 1, 3), (⟨"FerryChange", "lives", "(II)I"⟩, prog_1_method_22_code, 5, (some .int), 3, 1, 3), (⟨"FerryChange", "declared", "(II)I"⟩, prog_1_method_23_code, 6, (some .int), 3, 1, 3), (⟨"FerryChange", "kinds", "(II)I"⟩, prog_1_method_24_code, 4, (some .int), 3, 1, 3), (⟨"FerryChange", "next", "(II)I"⟩, prog_1_method_25_code, 9, (some .int), 3, 1, 3), (⟨"FerryChange", "boats", "(I)I"⟩, prog_1_method_26_code, 4, (some .int), 2, 1, 3), (⟨"FerryChange", "sets", "(I)I"⟩, prog_1_method_27_code, 5, (some .int), 2, 1, 3), (⟨"FerryChange", "sure", "(I)I"⟩, prog_1_method_28_code, 7, (some .int), 2, 1, 3), (⟨"FerryChange", "alike", "(II)I"⟩, prog_1_method_29_code, 8, (some .int), 3, 1, 3), (⟨"FerryChange", "duel", "(III)I"⟩, prog_1_method_30_code, 6, (some .int), 4, 1, 3), (⟨"FerryChange", "odds", "(III)I"⟩, prog_1_method_31_code, 4, (some .int), 4, 1, 3), (⟨"FerryChange", "mid", "(III)I"⟩, prog_1_method_32_code, 4, (some .int), 4, 1, 3)],
  [(⟨"FerryChange", "lots", "(II)I"⟩, prog_1_method_33_code, 6, (some .int), 3, 1, 3), (⟨"FerryChange", "asked", "()I"⟩, prog_1_method_34_code, 1, (some .int), 1, 1, 3), (⟨"FerryChange", "upper", "()J"⟩, prog_1_method_35_code, 1, (some .long), 1, 1, 3), (⟨"FerryChange", "lower", "()J"⟩, prog_1_method_36_code, 1, (some .long), 1, 1, 3), (⟨"FerryChange", "count", "(I)I"⟩, prog_1_method_37_code, 2, (some .int), 2, 1, 3), (⟨"FerryChange", "finding", "()I"⟩, prog_1_method_38_code, 1, (some .int), 1, 1, 3), (⟨"FerryChange", "findings", "(I)I"⟩, prog_1_method_39_code, 2, (some .int), 2, 1, 3), (⟨"FerryChange", "digest", "()J"⟩, prog_1_method_40_code, 7, (some .long), 1, 1, 3), (⟨"FerryChange", "isRow", "(I)Z"⟩, prog_1_method_41_code, 1, (some .boolean), 1, 0, 3), (⟨"FerryChange", "isText", "(I)Z"⟩, prog_1_method_42_code, 1, (some .boolean), 1, 0, 3), (⟨"FerryChange", "isPlaceKept", "(I)Z"⟩, prog_1_method_43_code, 1, (some .boolean), 1, 0, 3), (⟨"FerryChange", "isDeclaration", "(I)Z"⟩, prog_1_method_44_code, 1, (some .boolean), 1, 0, 3), (⟨"FerryChange", "isPassenger", "(I)Z"⟩, prog_1_method_45_code, 2, (some .boolean), 2, 1, 3), (⟨"FerryChange", "answerFinding", "(I)I"⟩, prog_1_method_46_code, 2, (some .int), 2, 1, 3)],
  [(⟨"FerryChange", "refusalOfPlace", "(LFerryChange$Row;I)I"⟩, prog_1_method_47_code, 3, (some .int), 3, 1, 3), (⟨"FerryChange", "refusalOfRow", "(LFerryChange$Row;IIII)I"⟩, prog_1_method_48_code, 7, (some .int), 6, 1, 3), (⟨"FerryChange", "refusalOfPairs", "(LFerryChange$Row;)I"⟩, prog_1_method_49_code, 4, (some .int), 2, 1, 3), (⟨"FerryChange", "placeOfFault", "(LFerryChange$Row;)I"⟩, prog_1_method_50_code, 5, (some .int), 1, 0, 3), (⟨"FerryChange", "isSignOfItem", "(II)Z"⟩, prog_1_method_51_code, 2, (some .boolean), 2, 0, 3), (⟨"FerryChange", "boardAll", "(LFerryChange$Row;)V"⟩, prog_1_method_52_code, 3, none, 2, 1, 3), (⟨"FerryChange", "boardOne", "(LFerryChange$Row;I)V"⟩, prog_1_method_53_code, 5, none, 3, 1, 3), (⟨"FerryChange", "knownOf", "(II)I"⟩, prog_1_method_54_code, 5, (some .int), 3, 1, 3), (⟨"FerryChange", "howManyThere", "([LFerryChange$Row;)I"⟩, prog_1_method_55_code, 6, (some .int), 1, 0, 3), (⟨"FerryChange", "howManyKept", "()I"⟩, prog_1_method_56_code, 6, (some .int), 1, 1, 3), (⟨"FerryChange", "tell", "(JJ)V"⟩, prog_1_method_57_code, 7, none, 3, 1, 3), (⟨"FerryChange", "greatestShared", "(JJ)J"⟩, prog_1_method_58_code, 7, (some .long), 2, 0, 3), (⟨"FerryChange", "isFound", "(LFerryChange$Search;III)Z"⟩, prog_1_method_59_code, 7, (some .boolean), 4, 0, 3), (⟨"FerryChange", "livesNewlyFound", "(II)I"⟩, prog_1_method_60_code, 7, (some .int), 3, 1, 3)],
  [(⟨"FerryChange", "mostTogether", "(IIII)I"⟩, prog_1_method_61_code, 7, (some .int), 4, 0, 3), (⟨"FerryChange", "kindsThatFit", "(ILFerryChange$Row;)I"⟩, prog_1_method_62_code, 5, (some .int), 3, 1, 3), (⟨"FerryChange", "fits", "(IILFerryChange$Row;)Z"⟩, prog_1_method_63_code, 6, (some .boolean), 4, 1, 3), (⟨"FerryChange", "greatestPart", "(III)I"⟩, prog_1_method_64_code, 7, (some .int), 4, 1, 3), (⟨"FerryChange", "fewestBoatsOf", "(II)I"⟩, prog_1_method_65_code, 6, (some .int), 3, 1, 3), (⟨"FerryChange", "firstBoat", "(II)I"⟩, prog_1_method_66_code, 4, (some .int), 3, 1, 3), (⟨"FerryChange", "isBoat", "(IIII)Z"⟩, prog_1_method_67_code, 5, (some .boolean), 5, 1, 3), (⟨"FerryChange", "answerChances", "(IIIZ)I"⟩, prog_1_method_68_code, 6, (some .int), 5, 1, 3), (⟨"FerryChange", "tellChances", "(ILFerryChange$Row;IZ)V"⟩, prog_1_method_69_code, 10, none, 5, 1, 3), (⟨"FerryChange", "weighedEnd", "(ILFerryChange$Row;IIZ)J"⟩, prog_1_method_70_code, 12, (some .long), 6, 1, 3), (⟨"FerryChangeModel", "<init>", "()V"⟩, prog_8_method_1_code, 2, none, 1, 2, 4), (⟨"FerryChangeModel", "in", "(III)Z"⟩, prog_8_method_3_code, 3, (some .boolean), 3, 0, 4), (⟨"FerryChangeModel", "bits", "(I)I"⟩, prog_8_method_4_code, 3, (some .int), 1, 0, 4), (⟨"FerryChangeModel", "bring", "([II[III)V"⟩, prog_8_method_5_code, 6, none, 5, 0, 4)],
  [(⟨"FerryChangeModel", "found", "(I)I"⟩, prog_8_method_6_code, 2, (some .int), 2, 1, 4), (⟨"FerryChangeModel", "tells", "(II)I"⟩, prog_8_method_7_code, 3, (some .int), 3, 1, 4), (⟨"FerryChangeModel", "isOne", "(I)Z"⟩, prog_8_method_8_code, 2, (some .boolean), 2, 1, 4), (⟨"FerryChangeModel", "isRow", "(I)Z"⟩, prog_8_method_9_code, 1, (some .boolean), 1, 0, 4), (⟨"FerryChangeModel", "isText", "(I)Z"⟩, prog_8_method_10_code, 1, (some .boolean), 1, 0, 4), (⟨"FerryChangeModel", "makesRow", "(II)V"⟩, prog_8_method_11_code, 4, none, 3, 1, 4), (⟨"FerryChangeModel", "row", "(II)I"⟩, prog_8_method_12_code, 3, (some .int), 3, 1, 4), (⟨"FerryChangeModel", "placeOf", "(II)I"⟩, prog_8_method_13_code, 3, (some .int), 3, 1, 4), (⟨"FerryChangeModel", "lay", "(III)I"⟩, prog_8_method_14_code, 6, (some .int), 4, 1, 4), (⟨"FerryChangeModel", "at", "(II)I"⟩, prog_8_method_15_code, 4, (some .int), 3, 1, 4), (⟨"FerryChangeModel", "tear", "(I)I"⟩, prog_8_method_16_code, 2, (some .int), 2, 1, 4), (⟨"FerryChangeModel", "copy", "(IIIII)I"⟩, prog_8_method_17_code, 9, (some .int), 6, 1, 4), (⟨"FerryChangeModel", "mean", "(I)I"⟩, prog_8_method_18_code, 5, (some .int), 2, 1, 4), (⟨"FerryChangeModel", "text", "(II)I"⟩, prog_8_method_19_code, 4, (some .int), 3, 1, 4)],
  [(⟨"FerryChangeModel", "put", "(III)I"⟩, prog_8_method_20_code, 5, (some .int), 4, 1, 4), (⟨"FerryChangeModel", "kindBy", "(I)I"⟩, prog_8_method_21_code, 1, (some .int), 1, 0, 4), (⟨"FerryChangeModel", "reading", "(I)I"⟩, prog_8_method_22_code, 6, (some .int), 2, 1, 4), (⟨"FerryChangeModel", "fault", "(I)I"⟩, prog_8_method_23_code, 2, (some .int), 2, 1, 4), (⟨"FerryChangeModel", "ferry", "(I)I"⟩, prog_8_method_24_code, 3, (some .int), 2, 1, 4), (⟨"FerryChangeModel", "whichBy", "(II)I"⟩, prog_8_method_25_code, 4, (some .int), 3, 1, 4), (⟨"FerryChangeModel", "changeBy", "(III)I"⟩, prog_8_method_26_code, 5, (some .int), 4, 1, 4), (⟨"FerryChangeModel", "mayLand", "([III)Z"⟩, prog_8_method_27_code, 4, (some .boolean), 4, 1, 4), (⟨"FerryChangeModel", "crosses", "([III)Z"⟩, prog_8_method_28_code, 5, (some .boolean), 4, 1, 4), (⟨"FerryChangeModel", "togetherOf", "([II)I"⟩, prog_8_method_29_code, 3, (some .int), 2, 0, 4), (⟨"FerryChangeModel", "lifeOf", "([II)I"⟩, prog_8_method_30_code, 3, (some .int), 2, 0, 4), (⟨"FerryChangeModel", "isA", "(II)Z"⟩, prog_8_method_31_code, 3, (some .boolean), 3, 1, 4), (⟨"FerryChangeModel", "weightOf", "(I)I"⟩, prog_8_method_32_code, 2, (some .int), 2, 1, 4), (⟨"FerryChangeModel", "landsBy", "(I)I"⟩, prog_8_method_33_code, 4, (some .int), 2, 1, 4)],
  [(⟨"FerryChangeModel", "passengerOf", "(II)I"⟩, prog_8_method_34_code, 3, (some .int), 3, 1, 4), (⟨"FerryChangeModel", "passenger", "(II)I"⟩, prog_8_method_35_code, 3, (some .int), 3, 1, 4), (⟨"FerryChangeModel", "besides", "(I)I"⟩, prog_8_method_36_code, 4, (some .int), 2, 1, 4), (⟨"FerryChangeModel", "leastThing", "(I)I"⟩, prog_8_method_37_code, 4, (some .int), 2, 1, 4), (⟨"FerryChangeModel", "mark", "(II)I"⟩, prog_8_method_38_code, 3, (some .int), 3, 1, 4), (⟨"FerryChangeModel", "notes", "()V"⟩, prog_8_method_39_code, 1, none, 1, 1, 4), (⟨"FerryChangeModel", "cross", "(II)I"⟩, prog_8_method_40_code, 3, (some .int), 3, 1, 4), (⟨"FerryChangeModel", "set", "(III)I"⟩, prog_8_method_41_code, 5, (some .int), 4, 1, 4), (⟨"FerryChangeModel", "undo", "(I)I"⟩, prog_8_method_42_code, 3, (some .int), 2, 1, 4), (⟨"FerryChangeModel", "keep", "(I)I"⟩, prog_8_method_43_code, 3, (some .int), 2, 1, 4), (⟨"FerryChangeModel", "on", "(I)I"⟩, prog_8_method_44_code, 3, (some .int), 2, 1, 4), (⟨"FerryChangeModel", "asItIs", "()V"⟩, prog_8_method_45_code, 1, none, 1, 1, 4), (⟨"FerryChangeModel", "changes", "(III)I"⟩, prog_8_method_46_code, 4, (some .int), 4, 1, 4), (⟨"FerryChangeModel", "rowFound", "(IIIII)I"⟩, prog_8_method_47_code, 8, (some .int), 6, 1, 4)],
  [(⟨"FerryChangeModel", "run", "(II)I"⟩, prog_8_method_48_code, 6, (some .int), 3, 1, 4), (⟨"FerryChangeModel", "isLife", "([III)Z"⟩, prog_8_method_49_code, 7, (some .boolean), 4, 1, 4), (⟨"FerryChangeModel", "codesOf", "(I)I"⟩, prog_8_method_50_code, 3, (some .int), 1, 0, 4), (⟨"FerryChangeModel", "crossesBy", "(III)V"⟩, prog_8_method_51_code, 5, none, 4, 1, 4), (⟨"FerryChangeModel", "fewest", "(IIII)I"⟩, prog_8_method_52_code, 10, (some .int), 5, 1, 4), (⟨"FerryChangeModel", "tellsPart", "(JJ)I"⟩, prog_8_method_53_code, 11, (some .int), 3, 1, 4), (⟨"FerryChangeModel", "lives", "(II)I"⟩, prog_8_method_54_code, 7, (some .int), 3, 1, 4), (⟨"FerryChangeModel", "declared", "(II)I"⟩, prog_8_method_55_code, 6, (some .int), 3, 1, 4), (⟨"FerryChangeModel", "pairsFound", "(I)I"⟩, prog_8_method_56_code, 4, (some .int), 2, 1, 4), (⟨"FerryChangeModel", "kindsOf", "(II)I"⟩, prog_8_method_57_code, 8, (some .int), 3, 1, 4), (⟨"FerryChangeModel", "kinds", "(II)I"⟩, prog_8_method_58_code, 4, (some .int), 3, 1, 4), (⟨"FerryChangeModel", "greatest", "(III)I"⟩, prog_8_method_59_code, 9, (some .int), 4, 1, 4), (⟨"FerryChangeModel", "next", "(II)I"⟩, prog_8_method_60_code, 9, (some .int), 3, 1, 4), (⟨"FerryChangeModel", "weightsOf", "(I)I"⟩, prog_8_method_61_code, 4, (some .int), 2, 1, 4)],
  [(⟨"FerryChangeModel", "boats", "(I)I"⟩, prog_8_method_62_code, 5, (some .int), 2, 1, 4), (⟨"FerryChangeModel", "sets", "(I)I"⟩, prog_8_method_63_code, 5, (some .int), 2, 1, 4), (⟨"FerryChangeModel", "sure", "(I)I"⟩, prog_8_method_64_code, 7, (some .int), 2, 1, 4), (⟨"FerryChangeModel", "alike", "(II)I"⟩, prog_8_method_65_code, 6, (some .int), 3, 1, 4), (⟨"FerryChangeModel", "duel", "(III)I"⟩, prog_8_method_66_code, 9, (some .int), 4, 1, 4), (⟨"FerryChangeModel", "failing", "(IIIZ)I"⟩, prog_8_method_67_code, 13, (some .int), 5, 1, 4), (⟨"FerryChangeModel", "odds", "(III)I"⟩, prog_8_method_68_code, 5, (some .int), 4, 1, 4), (⟨"FerryChangeModel", "mid", "(III)I"⟩, prog_8_method_69_code, 5, (some .int), 4, 1, 4), (⟨"FerryChangeModel", "across", "()I"⟩, prog_8_method_70_code, 3, (some .int), 1, 1, 4), (⟨"FerryChangeModel", "lots", "(II)I"⟩, prog_8_method_71_code, 8, (some .int), 3, 1, 4), (⟨"FerryChangeModel", "asked", "()I"⟩, prog_8_method_72_code, 1, (some .int), 1, 1, 4), (⟨"FerryChangeModel", "upper", "()J"⟩, prog_8_method_73_code, 1, (some .long), 1, 1, 4), (⟨"FerryChangeModel", "lower", "()J"⟩, prog_8_method_74_code, 1, (some .long), 1, 1, 4), (⟨"FerryChangeModel", "there", "([I)I"⟩, prog_8_method_75_code, 3, (some .int), 1, 0, 4)],
  [(⟨"FerryChangeModel", "keptMany", "()I"⟩, prog_8_method_76_code, 3, (some .int), 1, 1, 4), (⟨"FerryChangeModel", "those", "(I)I"⟩, prog_8_method_77_code, 4, (some .int), 2, 1, 4), (⟨"FerryChangeModel", "count", "(I)I"⟩, prog_8_method_78_code, 2, (some .int), 2, 1, 4), (⟨"FerryChangeModel", "finding", "()I"⟩, prog_8_method_79_code, 1, (some .int), 1, 1, 4), (⟨"FerryChangeModel", "findings", "(I)I"⟩, prog_8_method_80_code, 2, (some .int), 2, 1, 4), (⟨"FerryChangeModel", "digest", "()J"⟩, prog_8_method_81_code, 5, (some .long), 1, 1, 4), (⟨"java/lang/Integer", "bitCount", "(I)I"⟩, prog_9_method_49_code, 1, (some .int), 1, 0, 99), (⟨"java/util/Arrays", "fill", "([II)V"⟩, prog_12_method_103_code, 4, none, 2, 0, 99)]]
def miD : MI := (⟨"", "", ""⟩, ⟨#[]⟩, 0, none, 0, 9, 99)
noncomputable def minf (M : Nat) : MI := nth (nth mtb (M / 14) []) (M % 14) miD
end
section
def mplL : List (List (Nat × Nat × Nat × Nat)) := [[(0, 0, 0, 0), (77, 53, 76, 0), (412, 53, 410, 411), (291, 53, 289, 290), (299, 53, 297, 298), (416, 53, 414, 415), (374, 53, 372, 373), (382, 53, 381, 6), (378, 53, 376, 377), (391, 53, 389, 390), (580, 53, 578, 579), (401, 53, 399, 400), (586, 53, 584, 585), (363, 53, 361, 362)],
  [(606, 53, 604, 605), (511, 53, 509, 510), (523, 53, 521, 522), (505, 53, 503, 504), (279, 59, 278, 0), (320, 59, 319, 0), (335, 59, 334, 0), (329, 59, 328, 0), (332, 59, 331, 0), (326, 59, 325, 0), (460, 59, 459, 0), (323, 59, 322, 0), (314, 59, 313, 0), (341, 60, 340, 0)],
  [(338, 60, 337, 0), (317, 60, 316, 0), (358, 60, 357, 0), (446, 60, 445, 0), (152, 55, 151, 0), (232, 55, 230, 231), (236, 55, 234, 235), (220, 55, 218, 219), (633, 55, 631, 632), (122, 54, 121, 0), (67, 52, 66, 0), (209, 52, 207, 208), (224, 52, 222, 223), (240, 52, 238, 239)],
  [(244, 52, 242, 243), (248, 52, 246, 247), (255, 52, 253, 254), (259, 52, 257, 258), (266, 52, 264, 265), (270, 52, 268, 269), (283, 52, 281, 282), (303, 52, 301, 302), (347, 52, 345, 346), (367, 52, 365, 366), (387, 52, 385, 386), (397, 52, 395, 396), (405, 52, 403, 404), (421, 52, 419, 420)],
  [(425, 52, 423, 424), (431, 52, 429, 430), (440, 52, 438, 439), (450, 52, 448, 449), (471, 52, 469, 470), (475, 52, 473, 474), (492, 52, 490, 491), (501, 52, 499, 500), (534, 52, 532, 533), (538, 52, 536, 537), (542, 52, 540, 541), (546, 52, 544, 545), (553, 52, 551, 552), (570, 52, 568, 569)],
  [(574, 52, 572, 573), (590, 52, 588, 589), (594, 52, 592, 593), (598, 52, 596, 597), (602, 52, 600, 601), (618, 52, 616, 617), (622, 52, 620, 621), (626, 52, 624, 625), (212, 52, 211, 0), (262, 52, 261, 0), (408, 52, 407, 0), (370, 52, 369, 0), (307, 52, 306, 4), (216, 52, 215, 0)],
  [(228, 52, 227, 1), (435, 52, 434, 7), (479, 52, 478, 10), (273, 52, 272, 0), (276, 52, 275, 0), (287, 52, 286, 2), (295, 52, 294, 3), (311, 52, 310, 5), (610, 52, 609, 0), (614, 52, 613, 20), (464, 52, 463, 9), (467, 52, 466, 0), (443, 52, 442, 0), (457, 52, 456, 8)],
  [(549, 52, 548, 0), (483, 52, 482, 11), (487, 52, 486, 12), (496, 52, 495, 13), (515, 52, 514, 14), (530, 52, 529, 16), (519, 52, 518, 15), (557, 52, 556, 17), (561, 52, 560, 18), (566, 52, 565, 19), (639, 57, 638, 0), (724, 57, 723, 0), (835, 57, 834, 0), (789, 57, 788, 0)],
  [(728, 57, 727, 21), (744, 57, 743, 24), (797, 57, 796, 26), (721, 57, 720, 0), (767, 57, 766, 0), (732, 57, 731, 22), (718, 57, 716, 717), (740, 57, 739, 23), (736, 57, 734, 735), (748, 57, 746, 747), (752, 57, 750, 751), (756, 57, 754, 755), (760, 57, 758, 759), (764, 57, 762, 763)],
  [(771, 57, 769, 770), (782, 57, 781, 0), (779, 57, 778, 25), (775, 57, 773, 774), (786, 57, 784, 785), (824, 57, 823, 32), (828, 57, 827, 33), (820, 57, 819, 31), (855, 57, 854, 37), (808, 57, 807, 0), (890, 57, 889, 0), (812, 57, 811, 29), (805, 57, 804, 28), (816, 57, 815, 30)],
  [(801, 57, 800, 27), (793, 57, 791, 792), (843, 57, 842, 35), (839, 57, 838, 34), (832, 57, 830, 831), (851, 57, 850, 36), (847, 57, 845, 846), (859, 57, 857, 858), (863, 57, 861, 862), (867, 57, 865, 866), (871, 57, 869, 870), (887, 57, 886, 39), (875, 57, 873, 874), (883, 57, 882, 38)],
  [(879, 57, 877, 878), (905, 57, 904, 41), (897, 57, 896, 0), (901, 57, 900, 40), (894, 57, 892, 893), (913, 57, 912, 42), (909, 57, 907, 908), (917, 57, 915, 916), (925, 57, 924, 43), (929, 57, 928, 44), (921, 57, 919, 920), (937, 57, 936, 45), (933, 57, 931, 932), (945, 57, 944, 46)],
  [(941, 57, 939, 940), (949, 57, 947, 948), (953, 57, 951, 952), (957, 57, 955, 956), (961, 57, 959, 960), (969, 57, 968, 47), (965, 57, 963, 964), (973, 57, 971, 972), (984, 57, 983, 48), (977, 57, 975, 976), (988, 57, 986, 987), (992, 57, 990, 991), (996, 57, 994, 995), (1007, 57, 1006, 0)],
  [(1011, 57, 1010, 50), (1004, 57, 1003, 49), (1000, 57, 998, 999), (1015, 57, 1013, 1014), (1019, 57, 1017, 1018), (1023, 57, 1021, 1022), (352, 61, 351, 0), (453, 62, 452, 0)]]
def mpl (M : Nat) : Nat × Nat × Nat × Nat := nth (nth mplL (M / 14) []) (M % 14) (0, 0, 0, 0)
def NM : Nat := 190
def plObj : Nat × Nat := (69, 70)
def plCpy : Nat × Nat × Nat := (251, 250, 58)
def pl_max : Nat × Nat × Nat := (155, 56, 156)
def pl_min : Nat × Nat × Nat := (525, 56, 526)
def plArr : Nat × Nat × Nat × Nat := (116, 714, 117, 72)
def plIns (a : Nat) : Nat × Nat := match a with
  | 0 => (74, 53)
  | 1 => (149, 55)
  | 2 => (119, 54)
  | 3 => (64, 52)
  | _ => (636, 57)
/-! THE TABLES ARE THE CODE: each row of them against the bytes and the Statement's words -/
def kR (a : Nat) : String := match a with
  | 2 => "FerryChange$Ferry"
  | _ => "FerryChange$Row"
def eqW (pl : Nat) (w : Cond) : Bool := decide (lw_tbl[pl]? = some w)
noncomputable def chkA (y : MethodName) (bs : ByteArray) (rt : Option FieldType) (pc : Nat) (q : INS) : Bool :=
  match q.1 with
  | .iconst n => decide (-1 ≤ n) && decide (n ≤ 5)
  | .bipush n => decide (-128 ≤ n) && decide (n ≤ 127)
  | .sipush n => decide (-32768 ≤ n) && decide (n ≤ 32767)
  | .ldc i => eqW q.2.2.1 (.constant y.cls i (Int32.ofInt q.2.2.2.2)) && decide (-2147483648 ≤ q.2.2.2.2) && decide (q.2.2.2.2 ≤ 2147483647)
  | .ldc_w i => eqW q.2.2.1 (.constant y.cls i (Int32.ofInt q.2.2.2.2)) && decide (-2147483648 ≤ q.2.2.2.2) && decide (q.2.2.2.2 ≤ 2147483647)
  | .ldc2_w i => eqW q.2.2.1 (.constantLong y.cls i (Int64.ofInt q.2.2.2.2)) && decide (-9223372036854775808 ≤ q.2.2.2.2) && decide (q.2.2.2.2 ≤ 9223372036854775807)
  | .getfield i => Nat.ble q.2.2.1 4 && Nat.blt q.2.2.2.1 (clK q.2.2.1) && eqW q.2.2.2.2.toNat (.fieldLink y.cls i (clT q.2.2.1 q.2.2.2.1).1 (clT q.2.2.1 q.2.2.2.1).2.1 (clT q.2.2.1 q.2.2.2.1).2.2.1)
  | .putfield i => Nat.ble q.2.2.1 4 && Nat.blt q.2.2.2.1 (clK q.2.2.1) && eqW q.2.2.2.2.toNat (.fieldLink y.cls i (clT q.2.2.1 q.2.2.2.1).1 (clT q.2.2.1 q.2.2.2.1).2.1 (clT q.2.2.1 q.2.2.2.1).2.2.1)
    && (!(clT q.2.2.1 q.2.2.2.1).2.2.2 || (decide (y.name = "<init>") && decide ((clT q.2.2.1 q.2.2.2.1).1 = y.cls)))
  | .new i => Nat.ble q.2.2.1 4 && eqW q.2.2.2.1 (.classLink y.cls i (clR q.2.2.1))
  | .anewarray i => (Nat.beq q.2.2.1 2 || Nat.beq q.2.2.1 3) && eqW q.2.2.2.1 (.classLink y.cls i (kR q.2.2.1))
  | .invokevirtual i => Nat.ble 1 q.2.2.1 && Nat.blt q.2.2.1 NM && eqW q.2.2.2.1 (.methodLink y.cls i (minf q.2.2.1).1)
  | .invokestatic i => bif Nat.beq q.2.2.1 9999 then eqW q.2.2.2.1 (.methodLink y.cls i arraycopyName) else bif Nat.beq q.2.2.1 9997 then eqW q.2.2.2.1 (.methodLink y.cls i Lib.Math.max.name) else bif Nat.beq q.2.2.1 9996 then eqW q.2.2.2.1 (.methodLink y.cls i Lib.Math.min.name) else Nat.ble 1 q.2.2.1 && Nat.blt q.2.2.1 NM && eqW q.2.2.2.1 (.methodLink y.cls i (minf q.2.2.1).1)
  | .invokespecial i => bif Nat.beq q.2.2.1 9998 then eqW q.2.2.2.1 (.methodLink y.cls i objectInit) else Nat.ble 1 q.2.2.1 && Nat.blt q.2.2.1 NM && (eqW q.2.2.2.1 (.methodLink y.cls i (minf q.2.2.1).1) || eqW q.2.2.2.1 (.methodLinkNest y.cls i (minf q.2.2.1).1 "FerryChange"))
  | .tableswitch dflt lo hi offs => decide (0 ≤ (pc : Int) + dflt) && offs.toList.all (fun o => decide (0 ≤ (pc : Int) + o)) && decide (hi - lo + 1 = (offs.toList.length : Int))
  | .lookupswitch dflt ps => decide (0 ≤ (pc : Int) + dflt) && ps.toList.all (fun o => decide (0 ≤ (pc : Int) + o.2)) && (ps.toList.zip (ps.toList.drop 1)).all (fun (a, next) => a.1 < next.1)
  | .goto off => decide (0 ≤ (pc : Int) + off)
  | .if_icmp _ off => decide (0 ≤ (pc : Int) + off)
  | .ifCond _ off => decide (0 ≤ (pc : Int) + off)
  | .ireturn => (Nat.beq q.2.2.1 0 && decide (rt = some .int)) || (Nat.beq q.2.2.1 1 && decide (rt = some .boolean))
  | .lreturn => decide (rt = some .long)
  | .return_ => decide (rt = none)
  | _ => true
noncomputable def chkI (y : MethodName) (bs : ByteArray) (rt : Option FieldType) (pc : Nat) (q : INS) : Bool := decide (decode bs pc = .ok (q.1, q.2.1)) && chkA y bs rt pc q
noncomputable def chkC (y : MethodName) (bs : ByteArray) (rt : Option FieldType) : Nat → List (Option INS) → Bool
  | _, [] => true
  | pc, none :: t => chkC y bs rt (pc + 1) t
  | pc, some q :: t => chkI y bs rt pc q && chkC y bs rt (pc + 1) t
noncomputable def chkB (y : MethodName) (bs : ByteArray) (rt : Option FieldType) : Nat → List (List (Option INS)) → Bool
  | _, [] => true
  | b, l :: t => chkC y bs rt b l && chkB y bs rt (b + 16) t
theorem chkB_app {y : MethodName} {bs : ByteArray} {rt : Option FieldType} : ∀ {l1 l2 : List (List (Option INS))} {b c : Nat}, chkB y bs rt b l1 = true → c = b + 16 * l1.length → chkB y bs rt c l2 = true → chkB y bs rt b (l1 ++ l2) = true
  | [], l2, b, c, _, h, h2 => by
    have e : c = b := by simpa using h
    subst e; exact h2
  | l :: t, l2, b, c, h1, h, h2 => by
    simp only [chkB, Bool.and_eq_true, List.cons_append] at h1 ⊢
    refine ⟨h1.1, chkB_app h1.2 ?_ h2⟩
    simp only [List.length_cons] at h
    omega
noncomputable def chkN (M : Nat) : Bool :=
  eqW (mpl M).2.1 (.initialized (minf M).1.cls) &&
  (match (minf M).2.2.2.2.2.1 with
    | 0 => eqW (mpl M).2.2.1 (.static (minf M).1)
    | 1 => eqW (mpl M).2.2.1 (.instanceMethod (minf M).1) && eqW (mpl M).2.2.2 (.selects (minf M).1.cls (minf M).1 (minf M).1) && Nat.ble (minf M).2.2.2.2.2.2 4 && decide (clR (minf M).2.2.2.2.2.2 = (minf M).1.cls)
    | 2 => eqW (mpl M).2.2.1 (.instanceMethod (minf M).1) && decide ((minf M).1.name = "<init>") && decide ((minf M).2.2.2.1 = none)
    | _ => false) &&
  decide ((minf M).1.cls ≠ "java/lang/invoke/MethodHandle") && decide ((minf M).1.cls ≠ "java/lang/invoke/VarHandle") && decide ((parseMethodDescriptor (minf M).1.desc).map (fun d => d.parameters.length) = some ((minf M).2.2.2.2.1 - (match (minf M).2.2.2.2.2.1 with
    | 0 => 0
    | _ => 1))) && Nat.ble (minf M).2.2.1 81 && plainName (minf M).1.cls
def MOK (M : Nat) : Prop := lw_tbl[(mpl M).1]? = some (.code (minf M).1 (minf M).2.1 (minf M).2.2.1 (minf M).2.2.2.1) ∧ chkN M = true
def CB (M : Nat) : Prop := chkB (minf M).1 (minf M).2.1 (minf M).2.2.2.1 0 (nth (nth tab (M / 14) []) (M % 14) []) = true
end
section
set_option maxRecDepth 20000 in
theorem cm_1 : MOK 1 := ⟨rfl, by decide +kernel⟩
set_option maxRecDepth 20000 in
theorem cm_2 : MOK 2 := ⟨rfl, by decide +kernel⟩
set_option maxRecDepth 20000 in
theorem cm_3 : MOK 3 := ⟨rfl, by decide +kernel⟩
set_option maxRecDepth 20000 in
theorem cm_4 : MOK 4 := ⟨rfl, by decide +kernel⟩
set_option maxRecDepth 20000 in
theorem cm_5 : MOK 5 := ⟨rfl, by decide +kernel⟩
set_option maxRecDepth 20000 in
theorem cm_6 : MOK 6 := ⟨rfl, by decide +kernel⟩
set_option maxRecDepth 20000 in
theorem cm_7 : MOK 7 := ⟨rfl, by decide +kernel⟩
set_option maxRecDepth 20000 in
theorem cm_8 : MOK 8 := ⟨rfl, by decide +kernel⟩
set_option maxRecDepth 20000 in
theorem cm_9 : MOK 9 := ⟨rfl, by decide +kernel⟩
set_option maxRecDepth 20000 in
theorem cm_10 : MOK 10 := ⟨rfl, by decide +kernel⟩
set_option maxRecDepth 20000 in
theorem cm_11 : MOK 11 := ⟨rfl, by decide +kernel⟩
set_option maxRecDepth 20000 in
theorem cm_12 : MOK 12 := ⟨rfl, by decide +kernel⟩
set_option maxRecDepth 20000 in
theorem cm_13 : MOK 13 := ⟨rfl, by decide +kernel⟩
set_option maxRecDepth 20000 in
theorem cm_14 : MOK 14 := ⟨rfl, by decide +kernel⟩
set_option maxRecDepth 20000 in
theorem cm_15 : MOK 15 := ⟨rfl, by decide +kernel⟩
set_option maxRecDepth 20000 in
theorem cm_16 : MOK 16 := ⟨rfl, by decide +kernel⟩
set_option maxRecDepth 20000 in
theorem cm_17 : MOK 17 := ⟨rfl, by decide +kernel⟩
set_option maxRecDepth 20000 in
theorem cm_18 : MOK 18 := ⟨rfl, by decide +kernel⟩
set_option maxRecDepth 20000 in
theorem cm_19 : MOK 19 := ⟨rfl, by decide +kernel⟩
set_option maxRecDepth 20000 in
theorem cm_20 : MOK 20 := ⟨rfl, by decide +kernel⟩
set_option maxRecDepth 20000 in
theorem cm_21 : MOK 21 := ⟨rfl, by decide +kernel⟩
set_option maxRecDepth 20000 in
theorem cm_22 : MOK 22 := ⟨rfl, by decide +kernel⟩
set_option maxRecDepth 20000 in
theorem cm_23 : MOK 23 := ⟨rfl, by decide +kernel⟩
set_option maxRecDepth 20000 in
theorem cm_24 : MOK 24 := ⟨rfl, by decide +kernel⟩
set_option maxRecDepth 20000 in
theorem cm_25 : MOK 25 := ⟨rfl, by decide +kernel⟩
set_option maxRecDepth 20000 in
theorem cm_26 : MOK 26 := ⟨rfl, by decide +kernel⟩
set_option maxRecDepth 20000 in
theorem cm_27 : MOK 27 := ⟨rfl, by decide +kernel⟩
set_option maxRecDepth 20000 in
theorem cm_28 : MOK 28 := ⟨rfl, by decide +kernel⟩
set_option maxRecDepth 20000 in
theorem cm_29 : MOK 29 := ⟨rfl, by decide +kernel⟩
set_option maxRecDepth 20000 in
theorem cm_30 : MOK 30 := ⟨rfl, by decide +kernel⟩
set_option maxRecDepth 20000 in
theorem cm_31 : MOK 31 := ⟨rfl, by decide +kernel⟩
set_option maxRecDepth 20000 in
theorem cm_32 : MOK 32 := ⟨rfl, by decide +kernel⟩
set_option maxRecDepth 20000 in
theorem cm_33 : MOK 33 := ⟨rfl, by decide +kernel⟩
set_option maxRecDepth 20000 in
theorem cm_34 : MOK 34 := ⟨rfl, by decide +kernel⟩
set_option maxRecDepth 20000 in
theorem cm_35 : MOK 35 := ⟨rfl, by decide +kernel⟩
set_option maxRecDepth 20000 in
theorem cm_36 : MOK 36 := ⟨rfl, by decide +kernel⟩
set_option maxRecDepth 20000 in
theorem cm_37 : MOK 37 := ⟨rfl, by decide +kernel⟩
set_option maxRecDepth 20000 in
theorem cm_38 : MOK 38 := ⟨rfl, by decide +kernel⟩
set_option maxRecDepth 20000 in
theorem cm_39 : MOK 39 := ⟨rfl, by decide +kernel⟩
set_option maxRecDepth 20000 in
theorem cm_40 : MOK 40 := ⟨rfl, by decide +kernel⟩
set_option maxRecDepth 20000 in
theorem cm_41 : MOK 41 := ⟨rfl, by decide +kernel⟩
set_option maxRecDepth 20000 in
theorem cm_42 : MOK 42 := ⟨rfl, by decide +kernel⟩
set_option maxRecDepth 20000 in
theorem cm_43 : MOK 43 := ⟨rfl, by decide +kernel⟩
set_option maxRecDepth 20000 in
theorem cm_44 : MOK 44 := ⟨rfl, by decide +kernel⟩
set_option maxRecDepth 20000 in
theorem cm_45 : MOK 45 := ⟨rfl, by decide +kernel⟩
set_option maxRecDepth 20000 in
theorem cm_46 : MOK 46 := ⟨rfl, by decide +kernel⟩
set_option maxRecDepth 20000 in
theorem cm_47 : MOK 47 := ⟨rfl, by decide +kernel⟩
set_option maxRecDepth 20000 in
theorem cm_48 : MOK 48 := ⟨rfl, by decide +kernel⟩
set_option maxRecDepth 20000 in
theorem cm_49 : MOK 49 := ⟨rfl, by decide +kernel⟩
set_option maxRecDepth 20000 in
theorem cm_50 : MOK 50 := ⟨rfl, by decide +kernel⟩
set_option maxRecDepth 20000 in
theorem cm_51 : MOK 51 := ⟨rfl, by decide +kernel⟩
set_option maxRecDepth 20000 in
theorem cm_52 : MOK 52 := ⟨rfl, by decide +kernel⟩
set_option maxRecDepth 20000 in
theorem cm_53 : MOK 53 := ⟨rfl, by decide +kernel⟩
set_option maxRecDepth 20000 in
theorem cm_54 : MOK 54 := ⟨rfl, by decide +kernel⟩
set_option maxRecDepth 20000 in
theorem cm_55 : MOK 55 := ⟨rfl, by decide +kernel⟩
set_option maxRecDepth 20000 in
theorem cm_56 : MOK 56 := ⟨rfl, by decide +kernel⟩
set_option maxRecDepth 20000 in
theorem cm_57 : MOK 57 := ⟨rfl, by decide +kernel⟩
set_option maxRecDepth 20000 in
theorem cm_58 : MOK 58 := ⟨rfl, by decide +kernel⟩
set_option maxRecDepth 20000 in
theorem cm_59 : MOK 59 := ⟨rfl, by decide +kernel⟩
set_option maxRecDepth 20000 in
theorem cm_60 : MOK 60 := ⟨rfl, by decide +kernel⟩
set_option maxRecDepth 20000 in
theorem cm_61 : MOK 61 := ⟨rfl, by decide +kernel⟩
set_option maxRecDepth 20000 in
theorem cm_62 : MOK 62 := ⟨rfl, by decide +kernel⟩
set_option maxRecDepth 20000 in
theorem cm_63 : MOK 63 := ⟨rfl, by decide +kernel⟩
set_option maxRecDepth 20000 in
theorem cm_64 : MOK 64 := ⟨rfl, by decide +kernel⟩
set_option maxRecDepth 20000 in
theorem cm_65 : MOK 65 := ⟨rfl, by decide +kernel⟩
set_option maxRecDepth 20000 in
theorem cm_66 : MOK 66 := ⟨rfl, by decide +kernel⟩
set_option maxRecDepth 20000 in
theorem cm_67 : MOK 67 := ⟨rfl, by decide +kernel⟩
set_option maxRecDepth 20000 in
theorem cm_68 : MOK 68 := ⟨rfl, by decide +kernel⟩
set_option maxRecDepth 20000 in
theorem cm_69 : MOK 69 := ⟨rfl, by decide +kernel⟩
set_option maxRecDepth 20000 in
theorem cm_70 : MOK 70 := ⟨rfl, by decide +kernel⟩
set_option maxRecDepth 20000 in
theorem cm_71 : MOK 71 := ⟨rfl, by decide +kernel⟩
set_option maxRecDepth 20000 in
theorem cm_72 : MOK 72 := ⟨rfl, by decide +kernel⟩
set_option maxRecDepth 20000 in
theorem cm_73 : MOK 73 := ⟨rfl, by decide +kernel⟩
set_option maxRecDepth 20000 in
theorem cm_74 : MOK 74 := ⟨rfl, by decide +kernel⟩
set_option maxRecDepth 20000 in
theorem cm_75 : MOK 75 := ⟨rfl, by decide +kernel⟩
set_option maxRecDepth 20000 in
theorem cm_76 : MOK 76 := ⟨rfl, by decide +kernel⟩
set_option maxRecDepth 20000 in
theorem cm_77 : MOK 77 := ⟨rfl, by decide +kernel⟩
set_option maxRecDepth 20000 in
theorem cm_78 : MOK 78 := ⟨rfl, by decide +kernel⟩
set_option maxRecDepth 20000 in
theorem cm_79 : MOK 79 := ⟨rfl, by decide +kernel⟩
set_option maxRecDepth 20000 in
theorem cm_80 : MOK 80 := ⟨rfl, by decide +kernel⟩
set_option maxRecDepth 20000 in
theorem cm_81 : MOK 81 := ⟨rfl, by decide +kernel⟩
set_option maxRecDepth 20000 in
theorem cm_82 : MOK 82 := ⟨rfl, by decide +kernel⟩
set_option maxRecDepth 20000 in
theorem cm_83 : MOK 83 := ⟨rfl, by decide +kernel⟩
set_option maxRecDepth 20000 in
theorem cm_84 : MOK 84 := ⟨rfl, by decide +kernel⟩
set_option maxRecDepth 20000 in
theorem cm_85 : MOK 85 := ⟨rfl, by decide +kernel⟩
set_option maxRecDepth 20000 in
theorem cm_86 : MOK 86 := ⟨rfl, by decide +kernel⟩
set_option maxRecDepth 20000 in
theorem cm_87 : MOK 87 := ⟨rfl, by decide +kernel⟩
set_option maxRecDepth 20000 in
theorem cm_88 : MOK 88 := ⟨rfl, by decide +kernel⟩
set_option maxRecDepth 20000 in
theorem cm_89 : MOK 89 := ⟨rfl, by decide +kernel⟩
set_option maxRecDepth 20000 in
theorem cm_90 : MOK 90 := ⟨rfl, by decide +kernel⟩
set_option maxRecDepth 20000 in
theorem cm_91 : MOK 91 := ⟨rfl, by decide +kernel⟩
set_option maxRecDepth 20000 in
theorem cm_92 : MOK 92 := ⟨rfl, by decide +kernel⟩
set_option maxRecDepth 20000 in
theorem cm_93 : MOK 93 := ⟨rfl, by decide +kernel⟩
set_option maxRecDepth 20000 in
theorem cm_94 : MOK 94 := ⟨rfl, by decide +kernel⟩
set_option maxRecDepth 20000 in
theorem cm_95 : MOK 95 := ⟨rfl, by decide +kernel⟩
set_option maxRecDepth 20000 in
theorem cm_96 : MOK 96 := ⟨rfl, by decide +kernel⟩
set_option maxRecDepth 20000 in
theorem cm_97 : MOK 97 := ⟨rfl, by decide +kernel⟩
set_option maxRecDepth 20000 in
theorem cm_98 : MOK 98 := ⟨rfl, by decide +kernel⟩
set_option maxRecDepth 20000 in
theorem cm_99 : MOK 99 := ⟨rfl, by decide +kernel⟩
set_option maxRecDepth 20000 in
theorem cm_100 : MOK 100 := ⟨rfl, by decide +kernel⟩
set_option maxRecDepth 20000 in
theorem cm_101 : MOK 101 := ⟨rfl, by decide +kernel⟩
set_option maxRecDepth 20000 in
theorem cm_102 : MOK 102 := ⟨rfl, by decide +kernel⟩
set_option maxRecDepth 20000 in
theorem cm_103 : MOK 103 := ⟨rfl, by decide +kernel⟩
set_option maxRecDepth 20000 in
theorem cm_104 : MOK 104 := ⟨rfl, by decide +kernel⟩
set_option maxRecDepth 20000 in
theorem cm_105 : MOK 105 := ⟨rfl, by decide +kernel⟩
set_option maxRecDepth 20000 in
theorem cm_106 : MOK 106 := ⟨rfl, by decide +kernel⟩
set_option maxRecDepth 20000 in
theorem cm_107 : MOK 107 := ⟨rfl, by decide +kernel⟩
set_option maxRecDepth 20000 in
theorem cm_108 : MOK 108 := ⟨rfl, by decide +kernel⟩
set_option maxRecDepth 20000 in
theorem cm_109 : MOK 109 := ⟨rfl, by decide +kernel⟩
set_option maxRecDepth 20000 in
theorem cm_110 : MOK 110 := ⟨rfl, by decide +kernel⟩
set_option maxRecDepth 20000 in
theorem cm_111 : MOK 111 := ⟨rfl, by decide +kernel⟩
set_option maxRecDepth 20000 in
theorem cm_112 : MOK 112 := ⟨rfl, by decide +kernel⟩
set_option maxRecDepth 20000 in
theorem cm_113 : MOK 113 := ⟨rfl, by decide +kernel⟩
set_option maxRecDepth 20000 in
theorem cm_114 : MOK 114 := ⟨rfl, by decide +kernel⟩
set_option maxRecDepth 20000 in
theorem cm_115 : MOK 115 := ⟨rfl, by decide +kernel⟩
set_option maxRecDepth 20000 in
theorem cm_116 : MOK 116 := ⟨rfl, by decide +kernel⟩
set_option maxRecDepth 20000 in
theorem cm_117 : MOK 117 := ⟨rfl, by decide +kernel⟩
set_option maxRecDepth 20000 in
theorem cm_118 : MOK 118 := ⟨rfl, by decide +kernel⟩
set_option maxRecDepth 20000 in
theorem cm_119 : MOK 119 := ⟨rfl, by decide +kernel⟩
set_option maxRecDepth 20000 in
theorem cm_120 : MOK 120 := ⟨rfl, by decide +kernel⟩
set_option maxRecDepth 20000 in
theorem cm_121 : MOK 121 := ⟨rfl, by decide +kernel⟩
set_option maxRecDepth 20000 in
theorem cm_122 : MOK 122 := ⟨rfl, by decide +kernel⟩
set_option maxRecDepth 20000 in
theorem cm_123 : MOK 123 := ⟨rfl, by decide +kernel⟩
set_option maxRecDepth 20000 in
theorem cm_124 : MOK 124 := ⟨rfl, by decide +kernel⟩
set_option maxRecDepth 20000 in
theorem cm_125 : MOK 125 := ⟨rfl, by decide +kernel⟩
set_option maxRecDepth 20000 in
theorem cm_126 : MOK 126 := ⟨rfl, by decide +kernel⟩
set_option maxRecDepth 20000 in
theorem cm_127 : MOK 127 := ⟨rfl, by decide +kernel⟩
set_option maxRecDepth 20000 in
theorem cm_128 : MOK 128 := ⟨rfl, by decide +kernel⟩
set_option maxRecDepth 20000 in
theorem cm_129 : MOK 129 := ⟨rfl, by decide +kernel⟩
set_option maxRecDepth 20000 in
theorem cm_130 : MOK 130 := ⟨rfl, by decide +kernel⟩
set_option maxRecDepth 20000 in
theorem cm_131 : MOK 131 := ⟨rfl, by decide +kernel⟩
set_option maxRecDepth 20000 in
theorem cm_132 : MOK 132 := ⟨rfl, by decide +kernel⟩
set_option maxRecDepth 20000 in
theorem cm_133 : MOK 133 := ⟨rfl, by decide +kernel⟩
set_option maxRecDepth 20000 in
theorem cm_134 : MOK 134 := ⟨rfl, by decide +kernel⟩
set_option maxRecDepth 20000 in
theorem cm_135 : MOK 135 := ⟨rfl, by decide +kernel⟩
set_option maxRecDepth 20000 in
theorem cm_136 : MOK 136 := ⟨rfl, by decide +kernel⟩
set_option maxRecDepth 20000 in
theorem cm_137 : MOK 137 := ⟨rfl, by decide +kernel⟩
set_option maxRecDepth 20000 in
theorem cm_138 : MOK 138 := ⟨rfl, by decide +kernel⟩
set_option maxRecDepth 20000 in
theorem cm_139 : MOK 139 := ⟨rfl, by decide +kernel⟩
set_option maxRecDepth 20000 in
theorem cm_140 : MOK 140 := ⟨rfl, by decide +kernel⟩
set_option maxRecDepth 20000 in
theorem cm_141 : MOK 141 := ⟨rfl, by decide +kernel⟩
set_option maxRecDepth 20000 in
theorem cm_142 : MOK 142 := ⟨rfl, by decide +kernel⟩
set_option maxRecDepth 20000 in
theorem cm_143 : MOK 143 := ⟨rfl, by decide +kernel⟩
set_option maxRecDepth 20000 in
theorem cm_144 : MOK 144 := ⟨rfl, by decide +kernel⟩
set_option maxRecDepth 20000 in
theorem cm_145 : MOK 145 := ⟨rfl, by decide +kernel⟩
set_option maxRecDepth 20000 in
theorem cm_146 : MOK 146 := ⟨rfl, by decide +kernel⟩
set_option maxRecDepth 20000 in
theorem cm_147 : MOK 147 := ⟨rfl, by decide +kernel⟩
set_option maxRecDepth 20000 in
theorem cm_148 : MOK 148 := ⟨rfl, by decide +kernel⟩
set_option maxRecDepth 20000 in
theorem cm_149 : MOK 149 := ⟨rfl, by decide +kernel⟩
set_option maxRecDepth 20000 in
theorem cm_150 : MOK 150 := ⟨rfl, by decide +kernel⟩
set_option maxRecDepth 20000 in
theorem cm_151 : MOK 151 := ⟨rfl, by decide +kernel⟩
set_option maxRecDepth 20000 in
theorem cm_152 : MOK 152 := ⟨rfl, by decide +kernel⟩
set_option maxRecDepth 20000 in
theorem cm_153 : MOK 153 := ⟨rfl, by decide +kernel⟩
set_option maxRecDepth 20000 in
theorem cm_154 : MOK 154 := ⟨rfl, by decide +kernel⟩
set_option maxRecDepth 20000 in
theorem cm_155 : MOK 155 := ⟨rfl, by decide +kernel⟩
set_option maxRecDepth 20000 in
theorem cm_156 : MOK 156 := ⟨rfl, by decide +kernel⟩
set_option maxRecDepth 20000 in
theorem cm_157 : MOK 157 := ⟨rfl, by decide +kernel⟩
set_option maxRecDepth 20000 in
theorem cm_158 : MOK 158 := ⟨rfl, by decide +kernel⟩
set_option maxRecDepth 20000 in
theorem cm_159 : MOK 159 := ⟨rfl, by decide +kernel⟩
set_option maxRecDepth 20000 in
theorem cm_160 : MOK 160 := ⟨rfl, by decide +kernel⟩
set_option maxRecDepth 20000 in
theorem cm_161 : MOK 161 := ⟨rfl, by decide +kernel⟩
set_option maxRecDepth 20000 in
theorem cm_162 : MOK 162 := ⟨rfl, by decide +kernel⟩
set_option maxRecDepth 20000 in
theorem cm_163 : MOK 163 := ⟨rfl, by decide +kernel⟩
set_option maxRecDepth 20000 in
theorem cm_164 : MOK 164 := ⟨rfl, by decide +kernel⟩
set_option maxRecDepth 20000 in
theorem cm_165 : MOK 165 := ⟨rfl, by decide +kernel⟩
set_option maxRecDepth 20000 in
theorem cm_166 : MOK 166 := ⟨rfl, by decide +kernel⟩
set_option maxRecDepth 20000 in
theorem cm_167 : MOK 167 := ⟨rfl, by decide +kernel⟩
set_option maxRecDepth 20000 in
theorem cm_168 : MOK 168 := ⟨rfl, by decide +kernel⟩
set_option maxRecDepth 20000 in
theorem cm_169 : MOK 169 := ⟨rfl, by decide +kernel⟩
set_option maxRecDepth 20000 in
theorem cm_170 : MOK 170 := ⟨rfl, by decide +kernel⟩
set_option maxRecDepth 20000 in
theorem cm_171 : MOK 171 := ⟨rfl, by decide +kernel⟩
set_option maxRecDepth 20000 in
theorem cm_172 : MOK 172 := ⟨rfl, by decide +kernel⟩
set_option maxRecDepth 20000 in
theorem cm_173 : MOK 173 := ⟨rfl, by decide +kernel⟩
set_option maxRecDepth 20000 in
theorem cm_174 : MOK 174 := ⟨rfl, by decide +kernel⟩
set_option maxRecDepth 20000 in
theorem cm_175 : MOK 175 := ⟨rfl, by decide +kernel⟩
set_option maxRecDepth 20000 in
theorem cm_176 : MOK 176 := ⟨rfl, by decide +kernel⟩
set_option maxRecDepth 20000 in
theorem cm_177 : MOK 177 := ⟨rfl, by decide +kernel⟩
set_option maxRecDepth 20000 in
theorem cm_178 : MOK 178 := ⟨rfl, by decide +kernel⟩
set_option maxRecDepth 20000 in
theorem cm_179 : MOK 179 := ⟨rfl, by decide +kernel⟩
set_option maxRecDepth 20000 in
theorem cm_180 : MOK 180 := ⟨rfl, by decide +kernel⟩
set_option maxRecDepth 20000 in
theorem cm_181 : MOK 181 := ⟨rfl, by decide +kernel⟩
set_option maxRecDepth 20000 in
theorem cm_182 : MOK 182 := ⟨rfl, by decide +kernel⟩
set_option maxRecDepth 20000 in
theorem cm_183 : MOK 183 := ⟨rfl, by decide +kernel⟩
set_option maxRecDepth 20000 in
theorem cm_184 : MOK 184 := ⟨rfl, by decide +kernel⟩
set_option maxRecDepth 20000 in
theorem cm_185 : MOK 185 := ⟨rfl, by decide +kernel⟩
set_option maxRecDepth 20000 in
theorem cm_186 : MOK 186 := ⟨rfl, by decide +kernel⟩
set_option maxRecDepth 20000 in
theorem cm_187 : MOK 187 := ⟨rfl, by decide +kernel⟩
set_option maxRecDepth 20000 in
theorem cm_188 : MOK 188 := ⟨rfl, by decide +kernel⟩
set_option maxRecDepth 20000 in
theorem cm_189 : MOK 189 := ⟨rfl, by decide +kernel⟩
end
section
theorem cb_0_0 : chkB x code (some .boolean) 0 tb_0_0 = true := by decide +kernel
theorem cb_0_1 : chkB x code (some .boolean) 64 tb_0_1 = true := by decide +kernel
theorem cb_0_2 : chkB x code (some .boolean) 128 tb_0_2 = true := by decide +kernel
theorem cb_0_3 : chkB x code (some .boolean) 192 tb_0_3 = true := by decide +kernel
theorem cb_0_4 : chkB x code (some .boolean) 256 tb_0_4 = true := by decide +kernel
theorem cb_0_5 : chkB x code (some .boolean) 320 tb_0_5 = true := by decide +kernel
theorem cb_0_6 : chkB x code (some .boolean) 384 tb_0_6 = true := by decide +kernel
theorem cb_0_7 : chkB x code (some .boolean) 448 tb_0_7 = true := by decide +kernel
theorem cb_0_8 : chkB x code (some .boolean) 512 tb_0_8 = true := by decide +kernel
theorem cb_0_9 : chkB x code (some .boolean) 576 tb_0_9 = true := by decide +kernel
theorem cb_0_10 : chkB x code (some .boolean) 640 tb_0_10 = true := by decide +kernel
theorem cb_0_11 : chkB x code (some .boolean) 704 tb_0_11 = true := by decide +kernel
theorem cb_0_12 : chkB x code (some .boolean) 768 tb_0_12 = true := by decide +kernel
theorem cb_0_13 : chkB x code (some .boolean) 832 tb_0_13 = true := by decide +kernel
theorem cb_0_14 : chkB x code (some .boolean) 896 tb_0_14 = true := by decide +kernel
theorem cb_0_15 : chkB x code (some .boolean) 960 tb_0_15 = true := by decide +kernel
theorem cb_0_16 : chkB x code (some .boolean) 1024 tb_0_16 = true := by decide +kernel
theorem cb_0_17 : chkB x code (some .boolean) 1088 tb_0_17 = true := by decide +kernel
theorem cb_0_18 : chkB x code (some .boolean) 1152 tb_0_18 = true := by decide +kernel
theorem cb_0_19 : chkB x code (some .boolean) 1216 tb_0_19 = true := by decide +kernel
theorem cb_0_20 : chkB x code (some .boolean) 1280 tb_0_20 = true := by decide +kernel
theorem cb_0_21 : chkB x code (some .boolean) 1344 tb_0_21 = true := by decide +kernel
theorem cb_0 : chkB x code (some .boolean) 0 tb_0 = true := (chkB_app cb_0_0 rfl (chkB_app cb_0_1 rfl (chkB_app cb_0_2 rfl (chkB_app cb_0_3 rfl (chkB_app cb_0_4 rfl (chkB_app cb_0_5 rfl (chkB_app cb_0_6 rfl (chkB_app cb_0_7 rfl (chkB_app cb_0_8 rfl (chkB_app cb_0_9 rfl (chkB_app cb_0_10 rfl (chkB_app cb_0_11 rfl (chkB_app cb_0_12 rfl (chkB_app cb_0_13 rfl (chkB_app cb_0_14 rfl (chkB_app cb_0_15 rfl (chkB_app cb_0_16 rfl (chkB_app cb_0_17 rfl (chkB_app cb_0_18 rfl (chkB_app cb_0_19 rfl (chkB_app cb_0_20 rfl cb_0_21)))))))))))))))))))))
theorem cb_1_0 : chkB ⟨"FerryChange$Ferry", "<init>", "()V"⟩ prog_2_method_1_code none 0 tb_1_0 = true := by decide +kernel
theorem cb_1_1 : chkB ⟨"FerryChange$Ferry", "<init>", "()V"⟩ prog_2_method_1_code none 64 tb_1_1 = true := by decide +kernel
theorem cb_1 : chkB ⟨"FerryChange$Ferry", "<init>", "()V"⟩ prog_2_method_1_code none 0 tb_1 = true := (chkB_app cb_1_0 rfl cb_1_1)
theorem cb_2 : chkB ⟨"FerryChange$Ferry", "isEmpty", "()Z"⟩ prog_2_method_2_code (some .boolean) 0 tb_2 = true := by decide +kernel
theorem cb_3 : chkB ⟨"FerryChange$Ferry", "clear", "()V"⟩ prog_2_method_3_code none 0 tb_3 = true := by decide +kernel
theorem cb_4 : chkB ⟨"FerryChange$Ferry", "board", "(III)V"⟩ prog_2_method_4_code none 0 tb_4 = true := by decide +kernel
theorem cb_5_0 : chkB ⟨"FerryChange$Ferry", "takeFrom", "(LFerryChange$Ferry;)V"⟩ prog_2_method_5_code none 0 tb_5_0 = true := by decide +kernel
theorem cb_5_1 : chkB ⟨"FerryChange$Ferry", "takeFrom", "(LFerryChange$Ferry;)V"⟩ prog_2_method_5_code none 64 tb_5_1 = true := by decide +kernel
theorem cb_5_2 : chkB ⟨"FerryChange$Ferry", "takeFrom", "(LFerryChange$Ferry;)V"⟩ prog_2_method_5_code none 128 tb_5_2 = true := by decide +kernel
theorem cb_5 : chkB ⟨"FerryChange$Ferry", "takeFrom", "(LFerryChange$Ferry;)V"⟩ prog_2_method_5_code none 0 tb_5 = true := (chkB_app cb_5_0 rfl (chkB_app cb_5_1 rfl cb_5_2))
theorem cb_6 : chkB ⟨"FerryChange$Ferry", "hasRoomFor", "(I)Z"⟩ prog_2_method_6_code (some .boolean) 0 tb_6 = true := by decide +kernel
theorem cb_7_0 : chkB ⟨"FerryChange$Ferry", "noteDeed", "(I)V"⟩ prog_2_method_7_code none 0 tb_7_0 = true := by decide +kernel
theorem cb_7_1 : chkB ⟨"FerryChange$Ferry", "noteDeed", "(I)V"⟩ prog_2_method_7_code none 64 tb_7_1 = true := by decide +kernel
theorem cb_7 : chkB ⟨"FerryChange$Ferry", "noteDeed", "(I)V"⟩ prog_2_method_7_code none 0 tb_7 = true := (chkB_app cb_7_0 rfl cb_7_1)
theorem cb_8_0 : chkB ⟨"FerryChange$Ferry", "takeOver", "(II)Z"⟩ prog_2_method_8_code (some .boolean) 0 tb_8_0 = true := by decide +kernel
theorem cb_8_1 : chkB ⟨"FerryChange$Ferry", "takeOver", "(II)Z"⟩ prog_2_method_8_code (some .boolean) 64 tb_8_1 = true := by decide +kernel
theorem cb_8 : chkB ⟨"FerryChange$Ferry", "takeOver", "(II)Z"⟩ prog_2_method_8_code (some .boolean) 0 tb_8 = true := (chkB_app cb_8_0 rfl cb_8_1)
theorem cb_9 : chkB ⟨"FerryChange$Ferry", "setByHand", "(III)V"⟩ prog_2_method_9_code none 0 tb_9 = true := by decide +kernel
theorem cb_10 : chkB ⟨"FerryChange$Ferry", "doByLot", "(I)V"⟩ prog_2_method_10_code none 0 tb_10 = true := by decide +kernel
theorem cb_11_0 : chkB ⟨"FerryChange$Ferry", "undoFrom", "(I)I"⟩ prog_2_method_11_code (some .int) 0 tb_11_0 = true := by decide +kernel
theorem cb_11_1 : chkB ⟨"FerryChange$Ferry", "undoFrom", "(I)I"⟩ prog_2_method_11_code (some .int) 64 tb_11_1 = true := by decide +kernel
theorem cb_11 : chkB ⟨"FerryChange$Ferry", "undoFrom", "(I)I"⟩ prog_2_method_11_code (some .int) 0 tb_11 = true := (chkB_app cb_11_0 rfl cb_11_1)
theorem cb_12 : chkB ⟨"FerryChange$Ferry", "onBankOne", "()I"⟩ prog_2_method_12_code (some .int) 0 tb_12 = true := by decide +kernel
theorem cb_13 : chkB ⟨"FerryChange$Ferry", "othersOnBankOf", "(I)I"⟩ prog_2_method_13_code (some .int) 0 tb_13 = true := by decide +kernel
theorem cb_14 : chkB ⟨"FerryChange$Ferry", "howManyOf", "(I)I"⟩ prog_2_method_14_code (some .int) 0 tb_14 = true := by decide +kernel
theorem cb_15 : chkB ⟨"FerryChange$Ferry", "setCount", "()I"⟩ prog_2_method_15_code (some .int) 0 tb_15 = true := by decide +kernel
theorem cb_16 : chkB ⟨"FerryChange$Ferry", "weightOfSet", "(I)I"⟩ prog_2_method_16_code (some .int) 0 tb_16 = true := by decide +kernel
theorem cb_17 : chkB ⟨"FerryChange$Ferry", "heaviest", "()I"⟩ prog_2_method_17_code (some .int) 0 tb_17 = true := by decide +kernel
theorem cb_18_0 : chkB ⟨"FerryChange$Kinds", "ofLetter", "(I)I"⟩ prog_3_method_2_code (some .int) 0 tb_18_0 = true := by decide +kernel
theorem cb_18_1 : chkB ⟨"FerryChange$Kinds", "ofLetter", "(I)I"⟩ prog_3_method_2_code (some .int) 64 tb_18_1 = true := by decide +kernel
theorem cb_18 : chkB ⟨"FerryChange$Kinds", "ofLetter", "(I)I"⟩ prog_3_method_2_code (some .int) 0 tb_18 = true := (chkB_app cb_18_0 rfl cb_18_1)
theorem cb_19 : chkB ⟨"FerryChange$Kinds", "isOf", "(II)Z"⟩ prog_3_method_3_code (some .boolean) 0 tb_19 = true := by decide +kernel
theorem cb_20 : chkB ⟨"FerryChange$Kinds", "stepOf", "(II)I"⟩ prog_3_method_4_code (some .int) 0 tb_20 = true := by decide +kernel
theorem cb_21 : chkB ⟨"FerryChange$Kinds", "thingOf", "(II)I"⟩ prog_3_method_5_code (some .int) 0 tb_21 = true := by decide +kernel
theorem cb_22 : chkB ⟨"FerryChange$Kinds", "changeOf", "(III)I"⟩ prog_3_method_6_code (some .int) 0 tb_22 = true := by decide +kernel
theorem cb_23_0 : chkB ⟨"FerryChange$Kinds", "landing", "(IIII)I"⟩ prog_3_method_7_code (some .int) 0 tb_23_0 = true := by decide +kernel
theorem cb_23_1 : chkB ⟨"FerryChange$Kinds", "landing", "(IIII)I"⟩ prog_3_method_7_code (some .int) 64 tb_23_1 = true := by decide +kernel
theorem cb_23 : chkB ⟨"FerryChange$Kinds", "landing", "(IIII)I"⟩ prog_3_method_7_code (some .int) 0 tb_23 = true := (chkB_app cb_23_0 rfl cb_23_1)
theorem cb_24 : chkB ⟨"FerryChange$Kinds", "lifeThen", "(IIII)I"⟩ prog_3_method_8_code (some .int) 0 tb_24 = true := by decide +kernel
theorem cb_25 : chkB ⟨"FerryChange$Kinds", "landings", "(III)I"⟩ prog_3_method_9_code (some .int) 0 tb_25 = true := by decide +kernel
theorem cb_26 : chkB ⟨"FerryChange$Kinds", "weightOf", "(II)I"⟩ prog_3_method_10_code (some .int) 0 tb_26 = true := by decide +kernel
theorem cb_27 : chkB ⟨"FerryChange$Life", "worthOf", "(I)I"⟩ prog_4_method_2_code (some .int) 0 tb_27 = true := by decide +kernel
theorem cb_28 : chkB ⟨"FerryChange$Life", "thing", "(II)I"⟩ prog_4_method_3_code (some .int) 0 tb_28 = true := by decide +kernel
theorem cb_29 : chkB ⟨"FerryChange$Life", "together", "(I)I"⟩ prog_4_method_4_code (some .int) 0 tb_29 = true := by decide +kernel
theorem cb_30 : chkB ⟨"FerryChange$Life", "leastThing", "(I)I"⟩ prog_4_method_5_code (some .int) 0 tb_30 = true := by decide +kernel
theorem cb_31 : chkB ⟨"FerryChange$Life", "isAs", "(I[I)Z"⟩ prog_4_method_6_code (some .boolean) 0 tb_31 = true := by decide +kernel
theorem cb_32 : chkB ⟨"FerryChange$Row", "<init>", "(I)V"⟩ prog_5_method_1_code none 0 tb_32 = true := by decide +kernel
theorem cb_33 : chkB ⟨"FerryChange$Row", "isMissing", "()Z"⟩ prog_5_method_2_code (some .boolean) 0 tb_33 = true := by decide +kernel
theorem cb_34 : chkB ⟨"FerryChange$Row", "hasPlaces", "(II)Z"⟩ prog_5_method_3_code (some .boolean) 0 tb_34 = true := by decide +kernel
theorem cb_35 : chkB ⟨"FerryChange$Row", "renew", "(II)V"⟩ prog_5_method_4_code none 0 tb_35 = true := by decide +kernel
theorem cb_36 : chkB ⟨"FerryChange$Row", "digestInto", "(J)J"⟩ prog_5_method_5_code (some .long) 0 tb_36 = true := by decide +kernel
theorem cb_37 : chkB ⟨"FerryChange$Search", "<init>", "()V"⟩ prog_6_method_1_code none 0 tb_37 = true := by decide +kernel
theorem cb_38_0 : chkB ⟨"FerryChange", "<init>", "()V"⟩ prog_1_method_1_code none 0 tb_38_0 = true := by decide +kernel
theorem cb_38_1 : chkB ⟨"FerryChange", "<init>", "()V"⟩ prog_1_method_1_code none 64 tb_38_1 = true := by decide +kernel
theorem cb_38_2 : chkB ⟨"FerryChange", "<init>", "()V"⟩ prog_1_method_1_code none 128 tb_38_2 = true := by decide +kernel
theorem cb_38 : chkB ⟨"FerryChange", "<init>", "()V"⟩ prog_1_method_1_code none 0 tb_38 = true := (chkB_app cb_38_0 rfl (chkB_app cb_38_1 rfl cb_38_2))
theorem cb_39 : chkB ⟨"FerryChange", "row", "(II)I"⟩ prog_1_method_2_code (some .int) 0 tb_39 = true := by decide +kernel
theorem cb_40 : chkB ⟨"FerryChange", "lay", "(III)I"⟩ prog_1_method_3_code (some .int) 0 tb_40 = true := by decide +kernel
theorem cb_41 : chkB ⟨"FerryChange", "at", "(II)I"⟩ prog_1_method_4_code (some .int) 0 tb_41 = true := by decide +kernel
theorem cb_42 : chkB ⟨"FerryChange", "tear", "(I)I"⟩ prog_1_method_5_code (some .int) 0 tb_42 = true := by decide +kernel
theorem cb_43_0 : chkB ⟨"FerryChange", "copy", "(IIIII)I"⟩ prog_1_method_6_code (some .int) 0 tb_43_0 = true := by decide +kernel
theorem cb_43_1 : chkB ⟨"FerryChange", "copy", "(IIIII)I"⟩ prog_1_method_6_code (some .int) 64 tb_43_1 = true := by decide +kernel
theorem cb_43 : chkB ⟨"FerryChange", "copy", "(IIIII)I"⟩ prog_1_method_6_code (some .int) 0 tb_43 = true := (chkB_app cb_43_0 rfl cb_43_1)
theorem cb_44_0 : chkB ⟨"FerryChange", "mean", "(I)I"⟩ prog_1_method_7_code (some .int) 0 tb_44_0 = true := by decide +kernel
theorem cb_44_1 : chkB ⟨"FerryChange", "mean", "(I)I"⟩ prog_1_method_7_code (some .int) 64 tb_44_1 = true := by decide +kernel
theorem cb_44 : chkB ⟨"FerryChange", "mean", "(I)I"⟩ prog_1_method_7_code (some .int) 0 tb_44 = true := (chkB_app cb_44_0 rfl cb_44_1)
theorem cb_45 : chkB ⟨"FerryChange", "text", "(II)I"⟩ prog_1_method_8_code (some .int) 0 tb_45 = true := by decide +kernel
theorem cb_46 : chkB ⟨"FerryChange", "put", "(III)I"⟩ prog_1_method_9_code (some .int) 0 tb_46 = true := by decide +kernel
theorem cb_47 : chkB ⟨"FerryChange", "fault", "(I)I"⟩ prog_1_method_10_code (some .int) 0 tb_47 = true := by decide +kernel
theorem cb_48_0 : chkB ⟨"FerryChange", "ferry", "(I)I"⟩ prog_1_method_11_code (some .int) 0 tb_48_0 = true := by decide +kernel
theorem cb_48_1 : chkB ⟨"FerryChange", "ferry", "(I)I"⟩ prog_1_method_11_code (some .int) 64 tb_48_1 = true := by decide +kernel
theorem cb_48 : chkB ⟨"FerryChange", "ferry", "(I)I"⟩ prog_1_method_11_code (some .int) 0 tb_48 = true := (chkB_app cb_48_0 rfl cb_48_1)
theorem cb_49 : chkB ⟨"FerryChange", "passenger", "(II)I"⟩ prog_1_method_12_code (some .int) 0 tb_49 = true := by decide +kernel
theorem cb_50_0 : chkB ⟨"FerryChange", "mark", "(II)I"⟩ prog_1_method_13_code (some .int) 0 tb_50_0 = true := by decide +kernel
theorem cb_50_1 : chkB ⟨"FerryChange", "mark", "(II)I"⟩ prog_1_method_13_code (some .int) 64 tb_50_1 = true := by decide +kernel
theorem cb_50_2 : chkB ⟨"FerryChange", "mark", "(II)I"⟩ prog_1_method_13_code (some .int) 128 tb_50_2 = true := by decide +kernel
theorem cb_50 : chkB ⟨"FerryChange", "mark", "(II)I"⟩ prog_1_method_13_code (some .int) 0 tb_50 = true := (chkB_app cb_50_0 rfl (chkB_app cb_50_1 rfl cb_50_2))
theorem cb_51 : chkB ⟨"FerryChange", "cross", "(II)I"⟩ prog_1_method_14_code (some .int) 0 tb_51 = true := by decide +kernel
theorem cb_52_0 : chkB ⟨"FerryChange", "set", "(III)I"⟩ prog_1_method_15_code (some .int) 0 tb_52_0 = true := by decide +kernel
theorem cb_52_1 : chkB ⟨"FerryChange", "set", "(III)I"⟩ prog_1_method_15_code (some .int) 64 tb_52_1 = true := by decide +kernel
theorem cb_52 : chkB ⟨"FerryChange", "set", "(III)I"⟩ prog_1_method_15_code (some .int) 0 tb_52 = true := (chkB_app cb_52_0 rfl cb_52_1)
theorem cb_53 : chkB ⟨"FerryChange", "undo", "(I)I"⟩ prog_1_method_16_code (some .int) 0 tb_53 = true := by decide +kernel
theorem cb_54 : chkB ⟨"FerryChange", "keep", "(I)I"⟩ prog_1_method_17_code (some .int) 0 tb_54 = true := by decide +kernel
theorem cb_55 : chkB ⟨"FerryChange", "on", "(I)I"⟩ prog_1_method_18_code (some .int) 0 tb_55 = true := by decide +kernel
theorem cb_56 : chkB ⟨"FerryChange", "changes", "(III)I"⟩ prog_1_method_19_code (some .int) 0 tb_56 = true := by decide +kernel
theorem cb_57_0 : chkB ⟨"FerryChange", "run", "(II)I"⟩ prog_1_method_20_code (some .int) 0 tb_57_0 = true := by decide +kernel
theorem cb_57_1 : chkB ⟨"FerryChange", "run", "(II)I"⟩ prog_1_method_20_code (some .int) 64 tb_57_1 = true := by decide +kernel
theorem cb_57_2 : chkB ⟨"FerryChange", "run", "(II)I"⟩ prog_1_method_20_code (some .int) 128 tb_57_2 = true := by decide +kernel
theorem cb_57 : chkB ⟨"FerryChange", "run", "(II)I"⟩ prog_1_method_20_code (some .int) 0 tb_57 = true := (chkB_app cb_57_0 rfl (chkB_app cb_57_1 rfl cb_57_2))
theorem cb_58_0 : chkB ⟨"FerryChange", "fewest", "(IIII)I"⟩ prog_1_method_21_code (some .int) 0 tb_58_0 = true := by decide +kernel
theorem cb_58_1 : chkB ⟨"FerryChange", "fewest", "(IIII)I"⟩ prog_1_method_21_code (some .int) 64 tb_58_1 = true := by decide +kernel
theorem cb_58_2 : chkB ⟨"FerryChange", "fewest", "(IIII)I"⟩ prog_1_method_21_code (some .int) 128 tb_58_2 = true := by decide +kernel
theorem cb_58_3 : chkB ⟨"FerryChange", "fewest", "(IIII)I"⟩ prog_1_method_21_code (some .int) 192 tb_58_3 = true := by decide +kernel
theorem cb_58 : chkB ⟨"FerryChange", "fewest", "(IIII)I"⟩ prog_1_method_21_code (some .int) 0 tb_58 = true := (chkB_app cb_58_0 rfl (chkB_app cb_58_1 rfl (chkB_app cb_58_2 rfl cb_58_3)))
theorem cb_59_0 : chkB ⟨"FerryChange", "lives", "(II)I"⟩ prog_1_method_22_code (some .int) 0 tb_59_0 = true := by decide +kernel
theorem cb_59_1 : chkB ⟨"FerryChange", "lives", "(II)I"⟩ prog_1_method_22_code (some .int) 64 tb_59_1 = true := by decide +kernel
theorem cb_59 : chkB ⟨"FerryChange", "lives", "(II)I"⟩ prog_1_method_22_code (some .int) 0 tb_59 = true := (chkB_app cb_59_0 rfl cb_59_1)
theorem cb_60_0 : chkB ⟨"FerryChange", "declared", "(II)I"⟩ prog_1_method_23_code (some .int) 0 tb_60_0 = true := by decide +kernel
theorem cb_60_1 : chkB ⟨"FerryChange", "declared", "(II)I"⟩ prog_1_method_23_code (some .int) 64 tb_60_1 = true := by decide +kernel
theorem cb_60 : chkB ⟨"FerryChange", "declared", "(II)I"⟩ prog_1_method_23_code (some .int) 0 tb_60 = true := (chkB_app cb_60_0 rfl cb_60_1)
theorem cb_61 : chkB ⟨"FerryChange", "kinds", "(II)I"⟩ prog_1_method_24_code (some .int) 0 tb_61 = true := by decide +kernel
theorem cb_62_0 : chkB ⟨"FerryChange", "next", "(II)I"⟩ prog_1_method_25_code (some .int) 0 tb_62_0 = true := by decide +kernel
theorem cb_62_1 : chkB ⟨"FerryChange", "next", "(II)I"⟩ prog_1_method_25_code (some .int) 64 tb_62_1 = true := by decide +kernel
theorem cb_62 : chkB ⟨"FerryChange", "next", "(II)I"⟩ prog_1_method_25_code (some .int) 0 tb_62 = true := (chkB_app cb_62_0 rfl cb_62_1)
theorem cb_63_0 : chkB ⟨"FerryChange", "boats", "(I)I"⟩ prog_1_method_26_code (some .int) 0 tb_63_0 = true := by decide +kernel
theorem cb_63_1 : chkB ⟨"FerryChange", "boats", "(I)I"⟩ prog_1_method_26_code (some .int) 64 tb_63_1 = true := by decide +kernel
theorem cb_63 : chkB ⟨"FerryChange", "boats", "(I)I"⟩ prog_1_method_26_code (some .int) 0 tb_63 = true := (chkB_app cb_63_0 rfl cb_63_1)
theorem cb_64_0 : chkB ⟨"FerryChange", "sets", "(I)I"⟩ prog_1_method_27_code (some .int) 0 tb_64_0 = true := by decide +kernel
theorem cb_64_1 : chkB ⟨"FerryChange", "sets", "(I)I"⟩ prog_1_method_27_code (some .int) 64 tb_64_1 = true := by decide +kernel
theorem cb_64 : chkB ⟨"FerryChange", "sets", "(I)I"⟩ prog_1_method_27_code (some .int) 0 tb_64 = true := (chkB_app cb_64_0 rfl cb_64_1)
theorem cb_65_0 : chkB ⟨"FerryChange", "sure", "(I)I"⟩ prog_1_method_28_code (some .int) 0 tb_65_0 = true := by decide +kernel
theorem cb_65_1 : chkB ⟨"FerryChange", "sure", "(I)I"⟩ prog_1_method_28_code (some .int) 64 tb_65_1 = true := by decide +kernel
theorem cb_65 : chkB ⟨"FerryChange", "sure", "(I)I"⟩ prog_1_method_28_code (some .int) 0 tb_65 = true := (chkB_app cb_65_0 rfl cb_65_1)
theorem cb_66_0 : chkB ⟨"FerryChange", "alike", "(II)I"⟩ prog_1_method_29_code (some .int) 0 tb_66_0 = true := by decide +kernel
theorem cb_66_1 : chkB ⟨"FerryChange", "alike", "(II)I"⟩ prog_1_method_29_code (some .int) 64 tb_66_1 = true := by decide +kernel
theorem cb_66_2 : chkB ⟨"FerryChange", "alike", "(II)I"⟩ prog_1_method_29_code (some .int) 128 tb_66_2 = true := by decide +kernel
theorem cb_66 : chkB ⟨"FerryChange", "alike", "(II)I"⟩ prog_1_method_29_code (some .int) 0 tb_66 = true := (chkB_app cb_66_0 rfl (chkB_app cb_66_1 rfl cb_66_2))
theorem cb_67_0 : chkB ⟨"FerryChange", "duel", "(III)I"⟩ prog_1_method_30_code (some .int) 0 tb_67_0 = true := by decide +kernel
theorem cb_67_1 : chkB ⟨"FerryChange", "duel", "(III)I"⟩ prog_1_method_30_code (some .int) 64 tb_67_1 = true := by decide +kernel
theorem cb_67 : chkB ⟨"FerryChange", "duel", "(III)I"⟩ prog_1_method_30_code (some .int) 0 tb_67 = true := (chkB_app cb_67_0 rfl cb_67_1)
theorem cb_68 : chkB ⟨"FerryChange", "odds", "(III)I"⟩ prog_1_method_31_code (some .int) 0 tb_68 = true := by decide +kernel
theorem cb_69 : chkB ⟨"FerryChange", "mid", "(III)I"⟩ prog_1_method_32_code (some .int) 0 tb_69 = true := by decide +kernel
theorem cb_70_0 : chkB ⟨"FerryChange", "lots", "(II)I"⟩ prog_1_method_33_code (some .int) 0 tb_70_0 = true := by decide +kernel
theorem cb_70_1 : chkB ⟨"FerryChange", "lots", "(II)I"⟩ prog_1_method_33_code (some .int) 64 tb_70_1 = true := by decide +kernel
theorem cb_70 : chkB ⟨"FerryChange", "lots", "(II)I"⟩ prog_1_method_33_code (some .int) 0 tb_70 = true := (chkB_app cb_70_0 rfl cb_70_1)
theorem cb_71 : chkB ⟨"FerryChange", "asked", "()I"⟩ prog_1_method_34_code (some .int) 0 tb_71 = true := by decide +kernel
theorem cb_72 : chkB ⟨"FerryChange", "upper", "()J"⟩ prog_1_method_35_code (some .long) 0 tb_72 = true := by decide +kernel
theorem cb_73 : chkB ⟨"FerryChange", "lower", "()J"⟩ prog_1_method_36_code (some .long) 0 tb_73 = true := by decide +kernel
theorem cb_74_0 : chkB ⟨"FerryChange", "count", "(I)I"⟩ prog_1_method_37_code (some .int) 0 tb_74_0 = true := by decide +kernel
theorem cb_74_1 : chkB ⟨"FerryChange", "count", "(I)I"⟩ prog_1_method_37_code (some .int) 64 tb_74_1 = true := by decide +kernel
theorem cb_74_2 : chkB ⟨"FerryChange", "count", "(I)I"⟩ prog_1_method_37_code (some .int) 128 tb_74_2 = true := by decide +kernel
theorem cb_74 : chkB ⟨"FerryChange", "count", "(I)I"⟩ prog_1_method_37_code (some .int) 0 tb_74 = true := (chkB_app cb_74_0 rfl (chkB_app cb_74_1 rfl cb_74_2))
theorem cb_75 : chkB ⟨"FerryChange", "finding", "()I"⟩ prog_1_method_38_code (some .int) 0 tb_75 = true := by decide +kernel
theorem cb_76 : chkB ⟨"FerryChange", "findings", "(I)I"⟩ prog_1_method_39_code (some .int) 0 tb_76 = true := by decide +kernel
theorem cb_77_0 : chkB ⟨"FerryChange", "digest", "()J"⟩ prog_1_method_40_code (some .long) 0 tb_77_0 = true := by decide +kernel
theorem cb_77_1 : chkB ⟨"FerryChange", "digest", "()J"⟩ prog_1_method_40_code (some .long) 64 tb_77_1 = true := by decide +kernel
theorem cb_77_2 : chkB ⟨"FerryChange", "digest", "()J"⟩ prog_1_method_40_code (some .long) 128 tb_77_2 = true := by decide +kernel
theorem cb_77_3 : chkB ⟨"FerryChange", "digest", "()J"⟩ prog_1_method_40_code (some .long) 192 tb_77_3 = true := by decide +kernel
theorem cb_77 : chkB ⟨"FerryChange", "digest", "()J"⟩ prog_1_method_40_code (some .long) 0 tb_77 = true := (chkB_app cb_77_0 rfl (chkB_app cb_77_1 rfl (chkB_app cb_77_2 rfl cb_77_3)))
theorem cb_78 : chkB ⟨"FerryChange", "isRow", "(I)Z"⟩ prog_1_method_41_code (some .boolean) 0 tb_78 = true := by decide +kernel
theorem cb_79 : chkB ⟨"FerryChange", "isText", "(I)Z"⟩ prog_1_method_42_code (some .boolean) 0 tb_79 = true := by decide +kernel
theorem cb_80 : chkB ⟨"FerryChange", "isPlaceKept", "(I)Z"⟩ prog_1_method_43_code (some .boolean) 0 tb_80 = true := by decide +kernel
theorem cb_81 : chkB ⟨"FerryChange", "isDeclaration", "(I)Z"⟩ prog_1_method_44_code (some .boolean) 0 tb_81 = true := by decide +kernel
theorem cb_82 : chkB ⟨"FerryChange", "isPassenger", "(I)Z"⟩ prog_1_method_45_code (some .boolean) 0 tb_82 = true := by decide +kernel
theorem cb_83 : chkB ⟨"FerryChange", "answerFinding", "(I)I"⟩ prog_1_method_46_code (some .int) 0 tb_83 = true := by decide +kernel
theorem cb_84 : chkB ⟨"FerryChange", "refusalOfPlace", "(LFerryChange$Row;I)I"⟩ prog_1_method_47_code (some .int) 0 tb_84 = true := by decide +kernel
theorem cb_85_0 : chkB ⟨"FerryChange", "refusalOfRow", "(LFerryChange$Row;IIII)I"⟩ prog_1_method_48_code (some .int) 0 tb_85_0 = true := by decide +kernel
theorem cb_85_1 : chkB ⟨"FerryChange", "refusalOfRow", "(LFerryChange$Row;IIII)I"⟩ prog_1_method_48_code (some .int) 64 tb_85_1 = true := by decide +kernel
theorem cb_85 : chkB ⟨"FerryChange", "refusalOfRow", "(LFerryChange$Row;IIII)I"⟩ prog_1_method_48_code (some .int) 0 tb_85 = true := (chkB_app cb_85_0 rfl cb_85_1)
theorem cb_86_0 : chkB ⟨"FerryChange", "refusalOfPairs", "(LFerryChange$Row;)I"⟩ prog_1_method_49_code (some .int) 0 tb_86_0 = true := by decide +kernel
theorem cb_86_1 : chkB ⟨"FerryChange", "refusalOfPairs", "(LFerryChange$Row;)I"⟩ prog_1_method_49_code (some .int) 64 tb_86_1 = true := by decide +kernel
theorem cb_86 : chkB ⟨"FerryChange", "refusalOfPairs", "(LFerryChange$Row;)I"⟩ prog_1_method_49_code (some .int) 0 tb_86 = true := (chkB_app cb_86_0 rfl cb_86_1)
theorem cb_87_0 : chkB ⟨"FerryChange", "placeOfFault", "(LFerryChange$Row;)I"⟩ prog_1_method_50_code (some .int) 0 tb_87_0 = true := by decide +kernel
theorem cb_87_1 : chkB ⟨"FerryChange", "placeOfFault", "(LFerryChange$Row;)I"⟩ prog_1_method_50_code (some .int) 64 tb_87_1 = true := by decide +kernel
theorem cb_87 : chkB ⟨"FerryChange", "placeOfFault", "(LFerryChange$Row;)I"⟩ prog_1_method_50_code (some .int) 0 tb_87 = true := (chkB_app cb_87_0 rfl cb_87_1)
theorem cb_88 : chkB ⟨"FerryChange", "isSignOfItem", "(II)Z"⟩ prog_1_method_51_code (some .boolean) 0 tb_88 = true := by decide +kernel
theorem cb_89 : chkB ⟨"FerryChange", "boardAll", "(LFerryChange$Row;)V"⟩ prog_1_method_52_code none 0 tb_89 = true := by decide +kernel
theorem cb_90_0 : chkB ⟨"FerryChange", "boardOne", "(LFerryChange$Row;I)V"⟩ prog_1_method_53_code none 0 tb_90_0 = true := by decide +kernel
theorem cb_90_1 : chkB ⟨"FerryChange", "boardOne", "(LFerryChange$Row;I)V"⟩ prog_1_method_53_code none 64 tb_90_1 = true := by decide +kernel
theorem cb_90 : chkB ⟨"FerryChange", "boardOne", "(LFerryChange$Row;I)V"⟩ prog_1_method_53_code none 0 tb_90 = true := (chkB_app cb_90_0 rfl cb_90_1)
theorem cb_91_0 : chkB ⟨"FerryChange", "knownOf", "(II)I"⟩ prog_1_method_54_code (some .int) 0 tb_91_0 = true := by decide +kernel
theorem cb_91_1 : chkB ⟨"FerryChange", "knownOf", "(II)I"⟩ prog_1_method_54_code (some .int) 64 tb_91_1 = true := by decide +kernel
theorem cb_91 : chkB ⟨"FerryChange", "knownOf", "(II)I"⟩ prog_1_method_54_code (some .int) 0 tb_91 = true := (chkB_app cb_91_0 rfl cb_91_1)
theorem cb_92 : chkB ⟨"FerryChange", "howManyThere", "([LFerryChange$Row;)I"⟩ prog_1_method_55_code (some .int) 0 tb_92 = true := by decide +kernel
theorem cb_93 : chkB ⟨"FerryChange", "howManyKept", "()I"⟩ prog_1_method_56_code (some .int) 0 tb_93 = true := by decide +kernel
theorem cb_94 : chkB ⟨"FerryChange", "tell", "(JJ)V"⟩ prog_1_method_57_code none 0 tb_94 = true := by decide +kernel
theorem cb_95 : chkB ⟨"FerryChange", "greatestShared", "(JJ)J"⟩ prog_1_method_58_code (some .long) 0 tb_95 = true := by decide +kernel
theorem cb_96_0 : chkB ⟨"FerryChange", "isFound", "(LFerryChange$Search;III)Z"⟩ prog_1_method_59_code (some .boolean) 0 tb_96_0 = true := by decide +kernel
theorem cb_96_1 : chkB ⟨"FerryChange", "isFound", "(LFerryChange$Search;III)Z"⟩ prog_1_method_59_code (some .boolean) 64 tb_96_1 = true := by decide +kernel
theorem cb_96_2 : chkB ⟨"FerryChange", "isFound", "(LFerryChange$Search;III)Z"⟩ prog_1_method_59_code (some .boolean) 128 tb_96_2 = true := by decide +kernel
theorem cb_96 : chkB ⟨"FerryChange", "isFound", "(LFerryChange$Search;III)Z"⟩ prog_1_method_59_code (some .boolean) 0 tb_96 = true := (chkB_app cb_96_0 rfl (chkB_app cb_96_1 rfl cb_96_2))
theorem cb_97_0 : chkB ⟨"FerryChange", "livesNewlyFound", "(II)I"⟩ prog_1_method_60_code (some .int) 0 tb_97_0 = true := by decide +kernel
theorem cb_97_1 : chkB ⟨"FerryChange", "livesNewlyFound", "(II)I"⟩ prog_1_method_60_code (some .int) 64 tb_97_1 = true := by decide +kernel
theorem cb_97 : chkB ⟨"FerryChange", "livesNewlyFound", "(II)I"⟩ prog_1_method_60_code (some .int) 0 tb_97 = true := (chkB_app cb_97_0 rfl cb_97_1)
theorem cb_98 : chkB ⟨"FerryChange", "mostTogether", "(IIII)I"⟩ prog_1_method_61_code (some .int) 0 tb_98 = true := by decide +kernel
theorem cb_99 : chkB ⟨"FerryChange", "kindsThatFit", "(ILFerryChange$Row;)I"⟩ prog_1_method_62_code (some .int) 0 tb_99 = true := by decide +kernel
theorem cb_100_0 : chkB ⟨"FerryChange", "fits", "(IILFerryChange$Row;)Z"⟩ prog_1_method_63_code (some .boolean) 0 tb_100_0 = true := by decide +kernel
theorem cb_100_1 : chkB ⟨"FerryChange", "fits", "(IILFerryChange$Row;)Z"⟩ prog_1_method_63_code (some .boolean) 64 tb_100_1 = true := by decide +kernel
theorem cb_100 : chkB ⟨"FerryChange", "fits", "(IILFerryChange$Row;)Z"⟩ prog_1_method_63_code (some .boolean) 0 tb_100 = true := (chkB_app cb_100_0 rfl cb_100_1)
theorem cb_101_0 : chkB ⟨"FerryChange", "greatestPart", "(III)I"⟩ prog_1_method_64_code (some .int) 0 tb_101_0 = true := by decide +kernel
theorem cb_101_1 : chkB ⟨"FerryChange", "greatestPart", "(III)I"⟩ prog_1_method_64_code (some .int) 64 tb_101_1 = true := by decide +kernel
theorem cb_101 : chkB ⟨"FerryChange", "greatestPart", "(III)I"⟩ prog_1_method_64_code (some .int) 0 tb_101 = true := (chkB_app cb_101_0 rfl cb_101_1)
theorem cb_102 : chkB ⟨"FerryChange", "fewestBoatsOf", "(II)I"⟩ prog_1_method_65_code (some .int) 0 tb_102 = true := by decide +kernel
theorem cb_103 : chkB ⟨"FerryChange", "firstBoat", "(II)I"⟩ prog_1_method_66_code (some .int) 0 tb_103 = true := by decide +kernel
theorem cb_104 : chkB ⟨"FerryChange", "isBoat", "(IIII)Z"⟩ prog_1_method_67_code (some .boolean) 0 tb_104 = true := by decide +kernel
theorem cb_105_0 : chkB ⟨"FerryChange", "answerChances", "(IIIZ)I"⟩ prog_1_method_68_code (some .int) 0 tb_105_0 = true := by decide +kernel
theorem cb_105_1 : chkB ⟨"FerryChange", "answerChances", "(IIIZ)I"⟩ prog_1_method_68_code (some .int) 64 tb_105_1 = true := by decide +kernel
theorem cb_105 : chkB ⟨"FerryChange", "answerChances", "(IIIZ)I"⟩ prog_1_method_68_code (some .int) 0 tb_105 = true := (chkB_app cb_105_0 rfl cb_105_1)
theorem cb_106_0 : chkB ⟨"FerryChange", "tellChances", "(ILFerryChange$Row;IZ)V"⟩ prog_1_method_69_code none 0 tb_106_0 = true := by decide +kernel
theorem cb_106_1 : chkB ⟨"FerryChange", "tellChances", "(ILFerryChange$Row;IZ)V"⟩ prog_1_method_69_code none 64 tb_106_1 = true := by decide +kernel
theorem cb_106 : chkB ⟨"FerryChange", "tellChances", "(ILFerryChange$Row;IZ)V"⟩ prog_1_method_69_code none 0 tb_106 = true := (chkB_app cb_106_0 rfl cb_106_1)
theorem cb_107_0 : chkB ⟨"FerryChange", "weighedEnd", "(ILFerryChange$Row;IIZ)J"⟩ prog_1_method_70_code (some .long) 0 tb_107_0 = true := by decide +kernel
theorem cb_107_1 : chkB ⟨"FerryChange", "weighedEnd", "(ILFerryChange$Row;IIZ)J"⟩ prog_1_method_70_code (some .long) 64 tb_107_1 = true := by decide +kernel
theorem cb_107_2 : chkB ⟨"FerryChange", "weighedEnd", "(ILFerryChange$Row;IIZ)J"⟩ prog_1_method_70_code (some .long) 128 tb_107_2 = true := by decide +kernel
theorem cb_107 : chkB ⟨"FerryChange", "weighedEnd", "(ILFerryChange$Row;IIZ)J"⟩ prog_1_method_70_code (some .long) 0 tb_107 = true := (chkB_app cb_107_0 rfl (chkB_app cb_107_1 rfl cb_107_2))
theorem cb_108_0 : chkB ⟨"FerryChangeModel", "<init>", "()V"⟩ prog_8_method_1_code none 0 tb_108_0 = true := by decide +kernel
theorem cb_108_1 : chkB ⟨"FerryChangeModel", "<init>", "()V"⟩ prog_8_method_1_code none 64 tb_108_1 = true := by decide +kernel
theorem cb_108_2 : chkB ⟨"FerryChangeModel", "<init>", "()V"⟩ prog_8_method_1_code none 128 tb_108_2 = true := by decide +kernel
theorem cb_108 : chkB ⟨"FerryChangeModel", "<init>", "()V"⟩ prog_8_method_1_code none 0 tb_108 = true := (chkB_app cb_108_0 rfl (chkB_app cb_108_1 rfl cb_108_2))
theorem cb_109 : chkB ⟨"FerryChangeModel", "in", "(III)Z"⟩ prog_8_method_3_code (some .boolean) 0 tb_109 = true := by decide +kernel
theorem cb_110 : chkB ⟨"FerryChangeModel", "bits", "(I)I"⟩ prog_8_method_4_code (some .int) 0 tb_110 = true := by decide +kernel
theorem cb_111 : chkB ⟨"FerryChangeModel", "bring", "([II[III)V"⟩ prog_8_method_5_code none 0 tb_111 = true := by decide +kernel
theorem cb_112 : chkB ⟨"FerryChangeModel", "found", "(I)I"⟩ prog_8_method_6_code (some .int) 0 tb_112 = true := by decide +kernel
theorem cb_113 : chkB ⟨"FerryChangeModel", "tells", "(II)I"⟩ prog_8_method_7_code (some .int) 0 tb_113 = true := by decide +kernel
theorem cb_114 : chkB ⟨"FerryChangeModel", "isOne", "(I)Z"⟩ prog_8_method_8_code (some .boolean) 0 tb_114 = true := by decide +kernel
theorem cb_115 : chkB ⟨"FerryChangeModel", "isRow", "(I)Z"⟩ prog_8_method_9_code (some .boolean) 0 tb_115 = true := by decide +kernel
theorem cb_116 : chkB ⟨"FerryChangeModel", "isText", "(I)Z"⟩ prog_8_method_10_code (some .boolean) 0 tb_116 = true := by decide +kernel
theorem cb_117 : chkB ⟨"FerryChangeModel", "makesRow", "(II)V"⟩ prog_8_method_11_code none 0 tb_117 = true := by decide +kernel
theorem cb_118 : chkB ⟨"FerryChangeModel", "row", "(II)I"⟩ prog_8_method_12_code (some .int) 0 tb_118 = true := by decide +kernel
theorem cb_119 : chkB ⟨"FerryChangeModel", "placeOf", "(II)I"⟩ prog_8_method_13_code (some .int) 0 tb_119 = true := by decide +kernel
theorem cb_120 : chkB ⟨"FerryChangeModel", "lay", "(III)I"⟩ prog_8_method_14_code (some .int) 0 tb_120 = true := by decide +kernel
theorem cb_121 : chkB ⟨"FerryChangeModel", "at", "(II)I"⟩ prog_8_method_15_code (some .int) 0 tb_121 = true := by decide +kernel
theorem cb_122 : chkB ⟨"FerryChangeModel", "tear", "(I)I"⟩ prog_8_method_16_code (some .int) 0 tb_122 = true := by decide +kernel
theorem cb_123_0 : chkB ⟨"FerryChangeModel", "copy", "(IIIII)I"⟩ prog_8_method_17_code (some .int) 0 tb_123_0 = true := by decide +kernel
theorem cb_123_1 : chkB ⟨"FerryChangeModel", "copy", "(IIIII)I"⟩ prog_8_method_17_code (some .int) 64 tb_123_1 = true := by decide +kernel
theorem cb_123_2 : chkB ⟨"FerryChangeModel", "copy", "(IIIII)I"⟩ prog_8_method_17_code (some .int) 128 tb_123_2 = true := by decide +kernel
theorem cb_123 : chkB ⟨"FerryChangeModel", "copy", "(IIIII)I"⟩ prog_8_method_17_code (some .int) 0 tb_123 = true := (chkB_app cb_123_0 rfl (chkB_app cb_123_1 rfl cb_123_2))
theorem cb_124_0 : chkB ⟨"FerryChangeModel", "mean", "(I)I"⟩ prog_8_method_18_code (some .int) 0 tb_124_0 = true := by decide +kernel
theorem cb_124_1 : chkB ⟨"FerryChangeModel", "mean", "(I)I"⟩ prog_8_method_18_code (some .int) 64 tb_124_1 = true := by decide +kernel
theorem cb_124 : chkB ⟨"FerryChangeModel", "mean", "(I)I"⟩ prog_8_method_18_code (some .int) 0 tb_124 = true := (chkB_app cb_124_0 rfl cb_124_1)
theorem cb_125 : chkB ⟨"FerryChangeModel", "text", "(II)I"⟩ prog_8_method_19_code (some .int) 0 tb_125 = true := by decide +kernel
theorem cb_126_0 : chkB ⟨"FerryChangeModel", "put", "(III)I"⟩ prog_8_method_20_code (some .int) 0 tb_126_0 = true := by decide +kernel
theorem cb_126_1 : chkB ⟨"FerryChangeModel", "put", "(III)I"⟩ prog_8_method_20_code (some .int) 64 tb_126_1 = true := by decide +kernel
theorem cb_126 : chkB ⟨"FerryChangeModel", "put", "(III)I"⟩ prog_8_method_20_code (some .int) 0 tb_126 = true := (chkB_app cb_126_0 rfl cb_126_1)
theorem cb_127_0 : chkB ⟨"FerryChangeModel", "kindBy", "(I)I"⟩ prog_8_method_21_code (some .int) 0 tb_127_0 = true := by decide +kernel
theorem cb_127_1 : chkB ⟨"FerryChangeModel", "kindBy", "(I)I"⟩ prog_8_method_21_code (some .int) 64 tb_127_1 = true := by decide +kernel
theorem cb_127 : chkB ⟨"FerryChangeModel", "kindBy", "(I)I"⟩ prog_8_method_21_code (some .int) 0 tb_127 = true := (chkB_app cb_127_0 rfl cb_127_1)
theorem cb_128_0 : chkB ⟨"FerryChangeModel", "reading", "(I)I"⟩ prog_8_method_22_code (some .int) 0 tb_128_0 = true := by decide +kernel
theorem cb_128_1 : chkB ⟨"FerryChangeModel", "reading", "(I)I"⟩ prog_8_method_22_code (some .int) 64 tb_128_1 = true := by decide +kernel
theorem cb_128_2 : chkB ⟨"FerryChangeModel", "reading", "(I)I"⟩ prog_8_method_22_code (some .int) 128 tb_128_2 = true := by decide +kernel
theorem cb_128_3 : chkB ⟨"FerryChangeModel", "reading", "(I)I"⟩ prog_8_method_22_code (some .int) 192 tb_128_3 = true := by decide +kernel
theorem cb_128_4 : chkB ⟨"FerryChangeModel", "reading", "(I)I"⟩ prog_8_method_22_code (some .int) 256 tb_128_4 = true := by decide +kernel
theorem cb_128 : chkB ⟨"FerryChangeModel", "reading", "(I)I"⟩ prog_8_method_22_code (some .int) 0 tb_128 = true := (chkB_app cb_128_0 rfl (chkB_app cb_128_1 rfl (chkB_app cb_128_2 rfl (chkB_app cb_128_3 rfl cb_128_4))))
theorem cb_129 : chkB ⟨"FerryChangeModel", "fault", "(I)I"⟩ prog_8_method_23_code (some .int) 0 tb_129 = true := by decide +kernel
theorem cb_130_0 : chkB ⟨"FerryChangeModel", "ferry", "(I)I"⟩ prog_8_method_24_code (some .int) 0 tb_130_0 = true := by decide +kernel
theorem cb_130_1 : chkB ⟨"FerryChangeModel", "ferry", "(I)I"⟩ prog_8_method_24_code (some .int) 64 tb_130_1 = true := by decide +kernel
theorem cb_130 : chkB ⟨"FerryChangeModel", "ferry", "(I)I"⟩ prog_8_method_24_code (some .int) 0 tb_130 = true := (chkB_app cb_130_0 rfl cb_130_1)
theorem cb_131 : chkB ⟨"FerryChangeModel", "whichBy", "(II)I"⟩ prog_8_method_25_code (some .int) 0 tb_131 = true := by decide +kernel
theorem cb_132_0 : chkB ⟨"FerryChangeModel", "changeBy", "(III)I"⟩ prog_8_method_26_code (some .int) 0 tb_132_0 = true := by decide +kernel
theorem cb_132_1 : chkB ⟨"FerryChangeModel", "changeBy", "(III)I"⟩ prog_8_method_26_code (some .int) 64 tb_132_1 = true := by decide +kernel
theorem cb_132 : chkB ⟨"FerryChangeModel", "changeBy", "(III)I"⟩ prog_8_method_26_code (some .int) 0 tb_132 = true := (chkB_app cb_132_0 rfl cb_132_1)
theorem cb_133 : chkB ⟨"FerryChangeModel", "mayLand", "([III)Z"⟩ prog_8_method_27_code (some .boolean) 0 tb_133 = true := by decide +kernel
theorem cb_134_0 : chkB ⟨"FerryChangeModel", "crosses", "([III)Z"⟩ prog_8_method_28_code (some .boolean) 0 tb_134_0 = true := by decide +kernel
theorem cb_134_1 : chkB ⟨"FerryChangeModel", "crosses", "([III)Z"⟩ prog_8_method_28_code (some .boolean) 64 tb_134_1 = true := by decide +kernel
theorem cb_134 : chkB ⟨"FerryChangeModel", "crosses", "([III)Z"⟩ prog_8_method_28_code (some .boolean) 0 tb_134 = true := (chkB_app cb_134_0 rfl cb_134_1)
theorem cb_135 : chkB ⟨"FerryChangeModel", "togetherOf", "([II)I"⟩ prog_8_method_29_code (some .int) 0 tb_135 = true := by decide +kernel
theorem cb_136 : chkB ⟨"FerryChangeModel", "lifeOf", "([II)I"⟩ prog_8_method_30_code (some .int) 0 tb_136 = true := by decide +kernel
theorem cb_137 : chkB ⟨"FerryChangeModel", "isA", "(II)Z"⟩ prog_8_method_31_code (some .boolean) 0 tb_137 = true := by decide +kernel
theorem cb_138 : chkB ⟨"FerryChangeModel", "weightOf", "(I)I"⟩ prog_8_method_32_code (some .int) 0 tb_138 = true := by decide +kernel
theorem cb_139 : chkB ⟨"FerryChangeModel", "landsBy", "(I)I"⟩ prog_8_method_33_code (some .int) 0 tb_139 = true := by decide +kernel
theorem cb_140_0 : chkB ⟨"FerryChangeModel", "passengerOf", "(II)I"⟩ prog_8_method_34_code (some .int) 0 tb_140_0 = true := by decide +kernel
theorem cb_140_1 : chkB ⟨"FerryChangeModel", "passengerOf", "(II)I"⟩ prog_8_method_34_code (some .int) 64 tb_140_1 = true := by decide +kernel
theorem cb_140 : chkB ⟨"FerryChangeModel", "passengerOf", "(II)I"⟩ prog_8_method_34_code (some .int) 0 tb_140 = true := (chkB_app cb_140_0 rfl cb_140_1)
theorem cb_141 : chkB ⟨"FerryChangeModel", "passenger", "(II)I"⟩ prog_8_method_35_code (some .int) 0 tb_141 = true := by decide +kernel
theorem cb_142 : chkB ⟨"FerryChangeModel", "besides", "(I)I"⟩ prog_8_method_36_code (some .int) 0 tb_142 = true := by decide +kernel
theorem cb_143 : chkB ⟨"FerryChangeModel", "leastThing", "(I)I"⟩ prog_8_method_37_code (some .int) 0 tb_143 = true := by decide +kernel
theorem cb_144_0 : chkB ⟨"FerryChangeModel", "mark", "(II)I"⟩ prog_8_method_38_code (some .int) 0 tb_144_0 = true := by decide +kernel
theorem cb_144_1 : chkB ⟨"FerryChangeModel", "mark", "(II)I"⟩ prog_8_method_38_code (some .int) 64 tb_144_1 = true := by decide +kernel
theorem cb_144 : chkB ⟨"FerryChangeModel", "mark", "(II)I"⟩ prog_8_method_38_code (some .int) 0 tb_144 = true := (chkB_app cb_144_0 rfl cb_144_1)
theorem cb_145 : chkB ⟨"FerryChangeModel", "notes", "()V"⟩ prog_8_method_39_code none 0 tb_145 = true := by decide +kernel
theorem cb_146 : chkB ⟨"FerryChangeModel", "cross", "(II)I"⟩ prog_8_method_40_code (some .int) 0 tb_146 = true := by decide +kernel
theorem cb_147_0 : chkB ⟨"FerryChangeModel", "set", "(III)I"⟩ prog_8_method_41_code (some .int) 0 tb_147_0 = true := by decide +kernel
theorem cb_147_1 : chkB ⟨"FerryChangeModel", "set", "(III)I"⟩ prog_8_method_41_code (some .int) 64 tb_147_1 = true := by decide +kernel
theorem cb_147 : chkB ⟨"FerryChangeModel", "set", "(III)I"⟩ prog_8_method_41_code (some .int) 0 tb_147 = true := (chkB_app cb_147_0 rfl cb_147_1)
theorem cb_148 : chkB ⟨"FerryChangeModel", "undo", "(I)I"⟩ prog_8_method_42_code (some .int) 0 tb_148 = true := by decide +kernel
theorem cb_149_0 : chkB ⟨"FerryChangeModel", "keep", "(I)I"⟩ prog_8_method_43_code (some .int) 0 tb_149_0 = true := by decide +kernel
theorem cb_149_1 : chkB ⟨"FerryChangeModel", "keep", "(I)I"⟩ prog_8_method_43_code (some .int) 64 tb_149_1 = true := by decide +kernel
theorem cb_149 : chkB ⟨"FerryChangeModel", "keep", "(I)I"⟩ prog_8_method_43_code (some .int) 0 tb_149 = true := (chkB_app cb_149_0 rfl cb_149_1)
theorem cb_150_0 : chkB ⟨"FerryChangeModel", "on", "(I)I"⟩ prog_8_method_44_code (some .int) 0 tb_150_0 = true := by decide +kernel
theorem cb_150_1 : chkB ⟨"FerryChangeModel", "on", "(I)I"⟩ prog_8_method_44_code (some .int) 64 tb_150_1 = true := by decide +kernel
theorem cb_150 : chkB ⟨"FerryChangeModel", "on", "(I)I"⟩ prog_8_method_44_code (some .int) 0 tb_150 = true := (chkB_app cb_150_0 rfl cb_150_1)
theorem cb_151 : chkB ⟨"FerryChangeModel", "asItIs", "()V"⟩ prog_8_method_45_code none 0 tb_151 = true := by decide +kernel
theorem cb_152 : chkB ⟨"FerryChangeModel", "changes", "(III)I"⟩ prog_8_method_46_code (some .int) 0 tb_152 = true := by decide +kernel
theorem cb_153_0 : chkB ⟨"FerryChangeModel", "rowFound", "(IIIII)I"⟩ prog_8_method_47_code (some .int) 0 tb_153_0 = true := by decide +kernel
theorem cb_153_1 : chkB ⟨"FerryChangeModel", "rowFound", "(IIIII)I"⟩ prog_8_method_47_code (some .int) 64 tb_153_1 = true := by decide +kernel
theorem cb_153 : chkB ⟨"FerryChangeModel", "rowFound", "(IIIII)I"⟩ prog_8_method_47_code (some .int) 0 tb_153 = true := (chkB_app cb_153_0 rfl cb_153_1)
theorem cb_154_0 : chkB ⟨"FerryChangeModel", "run", "(II)I"⟩ prog_8_method_48_code (some .int) 0 tb_154_0 = true := by decide +kernel
theorem cb_154_1 : chkB ⟨"FerryChangeModel", "run", "(II)I"⟩ prog_8_method_48_code (some .int) 64 tb_154_1 = true := by decide +kernel
theorem cb_154 : chkB ⟨"FerryChangeModel", "run", "(II)I"⟩ prog_8_method_48_code (some .int) 0 tb_154 = true := (chkB_app cb_154_0 rfl cb_154_1)
theorem cb_155_0 : chkB ⟨"FerryChangeModel", "isLife", "([III)Z"⟩ prog_8_method_49_code (some .boolean) 0 tb_155_0 = true := by decide +kernel
theorem cb_155_1 : chkB ⟨"FerryChangeModel", "isLife", "([III)Z"⟩ prog_8_method_49_code (some .boolean) 64 tb_155_1 = true := by decide +kernel
theorem cb_155 : chkB ⟨"FerryChangeModel", "isLife", "([III)Z"⟩ prog_8_method_49_code (some .boolean) 0 tb_155 = true := (chkB_app cb_155_0 rfl cb_155_1)
theorem cb_156 : chkB ⟨"FerryChangeModel", "codesOf", "(I)I"⟩ prog_8_method_50_code (some .int) 0 tb_156 = true := by decide +kernel
theorem cb_157 : chkB ⟨"FerryChangeModel", "crossesBy", "(III)V"⟩ prog_8_method_51_code none 0 tb_157 = true := by decide +kernel
theorem cb_158_0 : chkB ⟨"FerryChangeModel", "fewest", "(IIII)I"⟩ prog_8_method_52_code (some .int) 0 tb_158_0 = true := by decide +kernel
theorem cb_158_1 : chkB ⟨"FerryChangeModel", "fewest", "(IIII)I"⟩ prog_8_method_52_code (some .int) 64 tb_158_1 = true := by decide +kernel
theorem cb_158_2 : chkB ⟨"FerryChangeModel", "fewest", "(IIII)I"⟩ prog_8_method_52_code (some .int) 128 tb_158_2 = true := by decide +kernel
theorem cb_158 : chkB ⟨"FerryChangeModel", "fewest", "(IIII)I"⟩ prog_8_method_52_code (some .int) 0 tb_158 = true := (chkB_app cb_158_0 rfl (chkB_app cb_158_1 rfl cb_158_2))
theorem cb_159 : chkB ⟨"FerryChangeModel", "tellsPart", "(JJ)I"⟩ prog_8_method_53_code (some .int) 0 tb_159 = true := by decide +kernel
theorem cb_160_0 : chkB ⟨"FerryChangeModel", "lives", "(II)I"⟩ prog_8_method_54_code (some .int) 0 tb_160_0 = true := by decide +kernel
theorem cb_160_1 : chkB ⟨"FerryChangeModel", "lives", "(II)I"⟩ prog_8_method_54_code (some .int) 64 tb_160_1 = true := by decide +kernel
theorem cb_160_2 : chkB ⟨"FerryChangeModel", "lives", "(II)I"⟩ prog_8_method_54_code (some .int) 128 tb_160_2 = true := by decide +kernel
theorem cb_160 : chkB ⟨"FerryChangeModel", "lives", "(II)I"⟩ prog_8_method_54_code (some .int) 0 tb_160 = true := (chkB_app cb_160_0 rfl (chkB_app cb_160_1 rfl cb_160_2))
theorem cb_161_0 : chkB ⟨"FerryChangeModel", "declared", "(II)I"⟩ prog_8_method_55_code (some .int) 0 tb_161_0 = true := by decide +kernel
theorem cb_161_1 : chkB ⟨"FerryChangeModel", "declared", "(II)I"⟩ prog_8_method_55_code (some .int) 64 tb_161_1 = true := by decide +kernel
theorem cb_161 : chkB ⟨"FerryChangeModel", "declared", "(II)I"⟩ prog_8_method_55_code (some .int) 0 tb_161 = true := (chkB_app cb_161_0 rfl cb_161_1)
theorem cb_162_0 : chkB ⟨"FerryChangeModel", "pairsFound", "(I)I"⟩ prog_8_method_56_code (some .int) 0 tb_162_0 = true := by decide +kernel
theorem cb_162_1 : chkB ⟨"FerryChangeModel", "pairsFound", "(I)I"⟩ prog_8_method_56_code (some .int) 64 tb_162_1 = true := by decide +kernel
theorem cb_162 : chkB ⟨"FerryChangeModel", "pairsFound", "(I)I"⟩ prog_8_method_56_code (some .int) 0 tb_162 = true := (chkB_app cb_162_0 rfl cb_162_1)
theorem cb_163_0 : chkB ⟨"FerryChangeModel", "kindsOf", "(II)I"⟩ prog_8_method_57_code (some .int) 0 tb_163_0 = true := by decide +kernel
theorem cb_163_1 : chkB ⟨"FerryChangeModel", "kindsOf", "(II)I"⟩ prog_8_method_57_code (some .int) 64 tb_163_1 = true := by decide +kernel
theorem cb_163_2 : chkB ⟨"FerryChangeModel", "kindsOf", "(II)I"⟩ prog_8_method_57_code (some .int) 128 tb_163_2 = true := by decide +kernel
theorem cb_163 : chkB ⟨"FerryChangeModel", "kindsOf", "(II)I"⟩ prog_8_method_57_code (some .int) 0 tb_163 = true := (chkB_app cb_163_0 rfl (chkB_app cb_163_1 rfl cb_163_2))
theorem cb_164 : chkB ⟨"FerryChangeModel", "kinds", "(II)I"⟩ prog_8_method_58_code (some .int) 0 tb_164 = true := by decide +kernel
theorem cb_165_0 : chkB ⟨"FerryChangeModel", "greatest", "(III)I"⟩ prog_8_method_59_code (some .int) 0 tb_165_0 = true := by decide +kernel
theorem cb_165_1 : chkB ⟨"FerryChangeModel", "greatest", "(III)I"⟩ prog_8_method_59_code (some .int) 64 tb_165_1 = true := by decide +kernel
theorem cb_165_2 : chkB ⟨"FerryChangeModel", "greatest", "(III)I"⟩ prog_8_method_59_code (some .int) 128 tb_165_2 = true := by decide +kernel
theorem cb_165 : chkB ⟨"FerryChangeModel", "greatest", "(III)I"⟩ prog_8_method_59_code (some .int) 0 tb_165 = true := (chkB_app cb_165_0 rfl (chkB_app cb_165_1 rfl cb_165_2))
theorem cb_166_0 : chkB ⟨"FerryChangeModel", "next", "(II)I"⟩ prog_8_method_60_code (some .int) 0 tb_166_0 = true := by decide +kernel
theorem cb_166_1 : chkB ⟨"FerryChangeModel", "next", "(II)I"⟩ prog_8_method_60_code (some .int) 64 tb_166_1 = true := by decide +kernel
theorem cb_166 : chkB ⟨"FerryChangeModel", "next", "(II)I"⟩ prog_8_method_60_code (some .int) 0 tb_166 = true := (chkB_app cb_166_0 rfl cb_166_1)
theorem cb_167 : chkB ⟨"FerryChangeModel", "weightsOf", "(I)I"⟩ prog_8_method_61_code (some .int) 0 tb_167 = true := by decide +kernel
theorem cb_168_0 : chkB ⟨"FerryChangeModel", "boats", "(I)I"⟩ prog_8_method_62_code (some .int) 0 tb_168_0 = true := by decide +kernel
theorem cb_168_1 : chkB ⟨"FerryChangeModel", "boats", "(I)I"⟩ prog_8_method_62_code (some .int) 64 tb_168_1 = true := by decide +kernel
theorem cb_168_2 : chkB ⟨"FerryChangeModel", "boats", "(I)I"⟩ prog_8_method_62_code (some .int) 128 tb_168_2 = true := by decide +kernel
theorem cb_168_3 : chkB ⟨"FerryChangeModel", "boats", "(I)I"⟩ prog_8_method_62_code (some .int) 192 tb_168_3 = true := by decide +kernel
theorem cb_168 : chkB ⟨"FerryChangeModel", "boats", "(I)I"⟩ prog_8_method_62_code (some .int) 0 tb_168 = true := (chkB_app cb_168_0 rfl (chkB_app cb_168_1 rfl (chkB_app cb_168_2 rfl cb_168_3)))
theorem cb_169_0 : chkB ⟨"FerryChangeModel", "sets", "(I)I"⟩ prog_8_method_63_code (some .int) 0 tb_169_0 = true := by decide +kernel
theorem cb_169_1 : chkB ⟨"FerryChangeModel", "sets", "(I)I"⟩ prog_8_method_63_code (some .int) 64 tb_169_1 = true := by decide +kernel
theorem cb_169 : chkB ⟨"FerryChangeModel", "sets", "(I)I"⟩ prog_8_method_63_code (some .int) 0 tb_169 = true := (chkB_app cb_169_0 rfl cb_169_1)
theorem cb_170_0 : chkB ⟨"FerryChangeModel", "sure", "(I)I"⟩ prog_8_method_64_code (some .int) 0 tb_170_0 = true := by decide +kernel
theorem cb_170_1 : chkB ⟨"FerryChangeModel", "sure", "(I)I"⟩ prog_8_method_64_code (some .int) 64 tb_170_1 = true := by decide +kernel
theorem cb_170 : chkB ⟨"FerryChangeModel", "sure", "(I)I"⟩ prog_8_method_64_code (some .int) 0 tb_170 = true := (chkB_app cb_170_0 rfl cb_170_1)
theorem cb_171_0 : chkB ⟨"FerryChangeModel", "alike", "(II)I"⟩ prog_8_method_65_code (some .int) 0 tb_171_0 = true := by decide +kernel
theorem cb_171_1 : chkB ⟨"FerryChangeModel", "alike", "(II)I"⟩ prog_8_method_65_code (some .int) 64 tb_171_1 = true := by decide +kernel
theorem cb_171_2 : chkB ⟨"FerryChangeModel", "alike", "(II)I"⟩ prog_8_method_65_code (some .int) 128 tb_171_2 = true := by decide +kernel
theorem cb_171 : chkB ⟨"FerryChangeModel", "alike", "(II)I"⟩ prog_8_method_65_code (some .int) 0 tb_171 = true := (chkB_app cb_171_0 rfl (chkB_app cb_171_1 rfl cb_171_2))
theorem cb_172_0 : chkB ⟨"FerryChangeModel", "duel", "(III)I"⟩ prog_8_method_66_code (some .int) 0 tb_172_0 = true := by decide +kernel
theorem cb_172_1 : chkB ⟨"FerryChangeModel", "duel", "(III)I"⟩ prog_8_method_66_code (some .int) 64 tb_172_1 = true := by decide +kernel
theorem cb_172_2 : chkB ⟨"FerryChangeModel", "duel", "(III)I"⟩ prog_8_method_66_code (some .int) 128 tb_172_2 = true := by decide +kernel
theorem cb_172_3 : chkB ⟨"FerryChangeModel", "duel", "(III)I"⟩ prog_8_method_66_code (some .int) 192 tb_172_3 = true := by decide +kernel
theorem cb_172_4 : chkB ⟨"FerryChangeModel", "duel", "(III)I"⟩ prog_8_method_66_code (some .int) 256 tb_172_4 = true := by decide +kernel
theorem cb_172 : chkB ⟨"FerryChangeModel", "duel", "(III)I"⟩ prog_8_method_66_code (some .int) 0 tb_172 = true := (chkB_app cb_172_0 rfl (chkB_app cb_172_1 rfl (chkB_app cb_172_2 rfl (chkB_app cb_172_3 rfl cb_172_4))))
theorem cb_173_0 : chkB ⟨"FerryChangeModel", "failing", "(IIIZ)I"⟩ prog_8_method_67_code (some .int) 0 tb_173_0 = true := by decide +kernel
theorem cb_173_1 : chkB ⟨"FerryChangeModel", "failing", "(IIIZ)I"⟩ prog_8_method_67_code (some .int) 64 tb_173_1 = true := by decide +kernel
theorem cb_173_2 : chkB ⟨"FerryChangeModel", "failing", "(IIIZ)I"⟩ prog_8_method_67_code (some .int) 128 tb_173_2 = true := by decide +kernel
theorem cb_173 : chkB ⟨"FerryChangeModel", "failing", "(IIIZ)I"⟩ prog_8_method_67_code (some .int) 0 tb_173 = true := (chkB_app cb_173_0 rfl (chkB_app cb_173_1 rfl cb_173_2))
theorem cb_174 : chkB ⟨"FerryChangeModel", "odds", "(III)I"⟩ prog_8_method_68_code (some .int) 0 tb_174 = true := by decide +kernel
theorem cb_175 : chkB ⟨"FerryChangeModel", "mid", "(III)I"⟩ prog_8_method_69_code (some .int) 0 tb_175 = true := by decide +kernel
theorem cb_176 : chkB ⟨"FerryChangeModel", "across", "()I"⟩ prog_8_method_70_code (some .int) 0 tb_176 = true := by decide +kernel
theorem cb_177_0 : chkB ⟨"FerryChangeModel", "lots", "(II)I"⟩ prog_8_method_71_code (some .int) 0 tb_177_0 = true := by decide +kernel
theorem cb_177_1 : chkB ⟨"FerryChangeModel", "lots", "(II)I"⟩ prog_8_method_71_code (some .int) 64 tb_177_1 = true := by decide +kernel
theorem cb_177_2 : chkB ⟨"FerryChangeModel", "lots", "(II)I"⟩ prog_8_method_71_code (some .int) 128 tb_177_2 = true := by decide +kernel
theorem cb_177 : chkB ⟨"FerryChangeModel", "lots", "(II)I"⟩ prog_8_method_71_code (some .int) 0 tb_177 = true := (chkB_app cb_177_0 rfl (chkB_app cb_177_1 rfl cb_177_2))
theorem cb_178 : chkB ⟨"FerryChangeModel", "asked", "()I"⟩ prog_8_method_72_code (some .int) 0 tb_178 = true := by decide +kernel
theorem cb_179 : chkB ⟨"FerryChangeModel", "upper", "()J"⟩ prog_8_method_73_code (some .long) 0 tb_179 = true := by decide +kernel
theorem cb_180 : chkB ⟨"FerryChangeModel", "lower", "()J"⟩ prog_8_method_74_code (some .long) 0 tb_180 = true := by decide +kernel
theorem cb_181 : chkB ⟨"FerryChangeModel", "there", "([I)I"⟩ prog_8_method_75_code (some .int) 0 tb_181 = true := by decide +kernel
theorem cb_182 : chkB ⟨"FerryChangeModel", "keptMany", "()I"⟩ prog_8_method_76_code (some .int) 0 tb_182 = true := by decide +kernel
theorem cb_183 : chkB ⟨"FerryChangeModel", "those", "(I)I"⟩ prog_8_method_77_code (some .int) 0 tb_183 = true := by decide +kernel
theorem cb_184_0 : chkB ⟨"FerryChangeModel", "count", "(I)I"⟩ prog_8_method_78_code (some .int) 0 tb_184_0 = true := by decide +kernel
theorem cb_184_1 : chkB ⟨"FerryChangeModel", "count", "(I)I"⟩ prog_8_method_78_code (some .int) 64 tb_184_1 = true := by decide +kernel
theorem cb_184 : chkB ⟨"FerryChangeModel", "count", "(I)I"⟩ prog_8_method_78_code (some .int) 0 tb_184 = true := (chkB_app cb_184_0 rfl cb_184_1)
theorem cb_185 : chkB ⟨"FerryChangeModel", "finding", "()I"⟩ prog_8_method_79_code (some .int) 0 tb_185 = true := by decide +kernel
theorem cb_186 : chkB ⟨"FerryChangeModel", "findings", "(I)I"⟩ prog_8_method_80_code (some .int) 0 tb_186 = true := by decide +kernel
theorem cb_187_0 : chkB ⟨"FerryChangeModel", "digest", "()J"⟩ prog_8_method_81_code (some .long) 0 tb_187_0 = true := by decide +kernel
theorem cb_187_1 : chkB ⟨"FerryChangeModel", "digest", "()J"⟩ prog_8_method_81_code (some .long) 64 tb_187_1 = true := by decide +kernel
theorem cb_187_2 : chkB ⟨"FerryChangeModel", "digest", "()J"⟩ prog_8_method_81_code (some .long) 128 tb_187_2 = true := by decide +kernel
theorem cb_187_3 : chkB ⟨"FerryChangeModel", "digest", "()J"⟩ prog_8_method_81_code (some .long) 192 tb_187_3 = true := by decide +kernel
theorem cb_187_4 : chkB ⟨"FerryChangeModel", "digest", "()J"⟩ prog_8_method_81_code (some .long) 256 tb_187_4 = true := by decide +kernel
theorem cb_187 : chkB ⟨"FerryChangeModel", "digest", "()J"⟩ prog_8_method_81_code (some .long) 0 tb_187 = true := (chkB_app cb_187_0 rfl (chkB_app cb_187_1 rfl (chkB_app cb_187_2 rfl (chkB_app cb_187_3 rfl cb_187_4))))
theorem cb_188 : chkB ⟨"java/lang/Integer", "bitCount", "(I)I"⟩ prog_9_method_49_code (some .int) 0 tb_188 = true := by decide +kernel
theorem cb_189 : chkB ⟨"java/util/Arrays", "fill", "([II)V"⟩ prog_12_method_103_code none 0 tb_189 = true := by decide +kernel
end
section
theorem cbg_0 (j : Nat) (h : j < 14) : CB (0 + j) := match j, h with
  | 0, _ => cb_0
  | 1, _ => cb_1
  | 2, _ => cb_2
  | 3, _ => cb_3
  | 4, _ => cb_4
  | 5, _ => cb_5
  | 6, _ => cb_6
  | 7, _ => cb_7
  | 8, _ => cb_8
  | 9, _ => cb_9
  | 10, _ => cb_10
  | 11, _ => cb_11
  | 12, _ => cb_12
  | 13, _ => cb_13
  | _ + 14, h => absurd h (by omega)
theorem cmg_0 (j : Nat) (h : j < 14) (h0 : 0 < 0 + j) : MOK (0 + j) := match j, h, h0 with
  | 0, _, h0 => absurd h0 (by omega)
  | 1, _, _ => cm_1
  | 2, _, _ => cm_2
  | 3, _, _ => cm_3
  | 4, _, _ => cm_4
  | 5, _, _ => cm_5
  | 6, _, _ => cm_6
  | 7, _, _ => cm_7
  | 8, _, _ => cm_8
  | 9, _, _ => cm_9
  | 10, _, _ => cm_10
  | 11, _, _ => cm_11
  | 12, _, _ => cm_12
  | 13, _, _ => cm_13
  | _ + 14, h, _ => absurd h (by omega)
theorem cbg_1 (j : Nat) (h : j < 14) : CB (14 + j) := match j, h with
  | 0, _ => cb_14
  | 1, _ => cb_15
  | 2, _ => cb_16
  | 3, _ => cb_17
  | 4, _ => cb_18
  | 5, _ => cb_19
  | 6, _ => cb_20
  | 7, _ => cb_21
  | 8, _ => cb_22
  | 9, _ => cb_23
  | 10, _ => cb_24
  | 11, _ => cb_25
  | 12, _ => cb_26
  | 13, _ => cb_27
  | _ + 14, h => absurd h (by omega)
theorem cmg_1 (j : Nat) (h : j < 14) (h0 : 0 < 14 + j) : MOK (14 + j) := match j, h, h0 with
  | 0, _, _ => cm_14
  | 1, _, _ => cm_15
  | 2, _, _ => cm_16
  | 3, _, _ => cm_17
  | 4, _, _ => cm_18
  | 5, _, _ => cm_19
  | 6, _, _ => cm_20
  | 7, _, _ => cm_21
  | 8, _, _ => cm_22
  | 9, _, _ => cm_23
  | 10, _, _ => cm_24
  | 11, _, _ => cm_25
  | 12, _, _ => cm_26
  | 13, _, _ => cm_27
  | _ + 14, h, _ => absurd h (by omega)
theorem cbg_2 (j : Nat) (h : j < 14) : CB (28 + j) := match j, h with
  | 0, _ => cb_28
  | 1, _ => cb_29
  | 2, _ => cb_30
  | 3, _ => cb_31
  | 4, _ => cb_32
  | 5, _ => cb_33
  | 6, _ => cb_34
  | 7, _ => cb_35
  | 8, _ => cb_36
  | 9, _ => cb_37
  | 10, _ => cb_38
  | 11, _ => cb_39
  | 12, _ => cb_40
  | 13, _ => cb_41
  | _ + 14, h => absurd h (by omega)
theorem cmg_2 (j : Nat) (h : j < 14) (h0 : 0 < 28 + j) : MOK (28 + j) := match j, h, h0 with
  | 0, _, _ => cm_28
  | 1, _, _ => cm_29
  | 2, _, _ => cm_30
  | 3, _, _ => cm_31
  | 4, _, _ => cm_32
  | 5, _, _ => cm_33
  | 6, _, _ => cm_34
  | 7, _, _ => cm_35
  | 8, _, _ => cm_36
  | 9, _, _ => cm_37
  | 10, _, _ => cm_38
  | 11, _, _ => cm_39
  | 12, _, _ => cm_40
  | 13, _, _ => cm_41
  | _ + 14, h, _ => absurd h (by omega)
theorem cbg_3 (j : Nat) (h : j < 14) : CB (42 + j) := match j, h with
  | 0, _ => cb_42
  | 1, _ => cb_43
  | 2, _ => cb_44
  | 3, _ => cb_45
  | 4, _ => cb_46
  | 5, _ => cb_47
  | 6, _ => cb_48
  | 7, _ => cb_49
  | 8, _ => cb_50
  | 9, _ => cb_51
  | 10, _ => cb_52
  | 11, _ => cb_53
  | 12, _ => cb_54
  | 13, _ => cb_55
  | _ + 14, h => absurd h (by omega)
theorem cmg_3 (j : Nat) (h : j < 14) (h0 : 0 < 42 + j) : MOK (42 + j) := match j, h, h0 with
  | 0, _, _ => cm_42
  | 1, _, _ => cm_43
  | 2, _, _ => cm_44
  | 3, _, _ => cm_45
  | 4, _, _ => cm_46
  | 5, _, _ => cm_47
  | 6, _, _ => cm_48
  | 7, _, _ => cm_49
  | 8, _, _ => cm_50
  | 9, _, _ => cm_51
  | 10, _, _ => cm_52
  | 11, _, _ => cm_53
  | 12, _, _ => cm_54
  | 13, _, _ => cm_55
  | _ + 14, h, _ => absurd h (by omega)
theorem cbg_4 (j : Nat) (h : j < 14) : CB (56 + j) := match j, h with
  | 0, _ => cb_56
  | 1, _ => cb_57
  | 2, _ => cb_58
  | 3, _ => cb_59
  | 4, _ => cb_60
  | 5, _ => cb_61
  | 6, _ => cb_62
  | 7, _ => cb_63
  | 8, _ => cb_64
  | 9, _ => cb_65
  | 10, _ => cb_66
  | 11, _ => cb_67
  | 12, _ => cb_68
  | 13, _ => cb_69
  | _ + 14, h => absurd h (by omega)
theorem cmg_4 (j : Nat) (h : j < 14) (h0 : 0 < 56 + j) : MOK (56 + j) := match j, h, h0 with
  | 0, _, _ => cm_56
  | 1, _, _ => cm_57
  | 2, _, _ => cm_58
  | 3, _, _ => cm_59
  | 4, _, _ => cm_60
  | 5, _, _ => cm_61
  | 6, _, _ => cm_62
  | 7, _, _ => cm_63
  | 8, _, _ => cm_64
  | 9, _, _ => cm_65
  | 10, _, _ => cm_66
  | 11, _, _ => cm_67
  | 12, _, _ => cm_68
  | 13, _, _ => cm_69
  | _ + 14, h, _ => absurd h (by omega)
theorem cbg_5 (j : Nat) (h : j < 14) : CB (70 + j) := match j, h with
  | 0, _ => cb_70
  | 1, _ => cb_71
  | 2, _ => cb_72
  | 3, _ => cb_73
  | 4, _ => cb_74
  | 5, _ => cb_75
  | 6, _ => cb_76
  | 7, _ => cb_77
  | 8, _ => cb_78
  | 9, _ => cb_79
  | 10, _ => cb_80
  | 11, _ => cb_81
  | 12, _ => cb_82
  | 13, _ => cb_83
  | _ + 14, h => absurd h (by omega)
theorem cmg_5 (j : Nat) (h : j < 14) (h0 : 0 < 70 + j) : MOK (70 + j) := match j, h, h0 with
  | 0, _, _ => cm_70
  | 1, _, _ => cm_71
  | 2, _, _ => cm_72
  | 3, _, _ => cm_73
  | 4, _, _ => cm_74
  | 5, _, _ => cm_75
  | 6, _, _ => cm_76
  | 7, _, _ => cm_77
  | 8, _, _ => cm_78
  | 9, _, _ => cm_79
  | 10, _, _ => cm_80
  | 11, _, _ => cm_81
  | 12, _, _ => cm_82
  | 13, _, _ => cm_83
  | _ + 14, h, _ => absurd h (by omega)
theorem cbg_6 (j : Nat) (h : j < 14) : CB (84 + j) := match j, h with
  | 0, _ => cb_84
  | 1, _ => cb_85
  | 2, _ => cb_86
  | 3, _ => cb_87
  | 4, _ => cb_88
  | 5, _ => cb_89
  | 6, _ => cb_90
  | 7, _ => cb_91
  | 8, _ => cb_92
  | 9, _ => cb_93
  | 10, _ => cb_94
  | 11, _ => cb_95
  | 12, _ => cb_96
  | 13, _ => cb_97
  | _ + 14, h => absurd h (by omega)
theorem cmg_6 (j : Nat) (h : j < 14) (h0 : 0 < 84 + j) : MOK (84 + j) := match j, h, h0 with
  | 0, _, _ => cm_84
  | 1, _, _ => cm_85
  | 2, _, _ => cm_86
  | 3, _, _ => cm_87
  | 4, _, _ => cm_88
  | 5, _, _ => cm_89
  | 6, _, _ => cm_90
  | 7, _, _ => cm_91
  | 8, _, _ => cm_92
  | 9, _, _ => cm_93
  | 10, _, _ => cm_94
  | 11, _, _ => cm_95
  | 12, _, _ => cm_96
  | 13, _, _ => cm_97
  | _ + 14, h, _ => absurd h (by omega)
theorem cbg_7 (j : Nat) (h : j < 14) : CB (98 + j) := match j, h with
  | 0, _ => cb_98
  | 1, _ => cb_99
  | 2, _ => cb_100
  | 3, _ => cb_101
  | 4, _ => cb_102
  | 5, _ => cb_103
  | 6, _ => cb_104
  | 7, _ => cb_105
  | 8, _ => cb_106
  | 9, _ => cb_107
  | 10, _ => cb_108
  | 11, _ => cb_109
  | 12, _ => cb_110
  | 13, _ => cb_111
  | _ + 14, h => absurd h (by omega)
theorem cmg_7 (j : Nat) (h : j < 14) (h0 : 0 < 98 + j) : MOK (98 + j) := match j, h, h0 with
  | 0, _, _ => cm_98
  | 1, _, _ => cm_99
  | 2, _, _ => cm_100
  | 3, _, _ => cm_101
  | 4, _, _ => cm_102
  | 5, _, _ => cm_103
  | 6, _, _ => cm_104
  | 7, _, _ => cm_105
  | 8, _, _ => cm_106
  | 9, _, _ => cm_107
  | 10, _, _ => cm_108
  | 11, _, _ => cm_109
  | 12, _, _ => cm_110
  | 13, _, _ => cm_111
  | _ + 14, h, _ => absurd h (by omega)
theorem cbg_8 (j : Nat) (h : j < 14) : CB (112 + j) := match j, h with
  | 0, _ => cb_112
  | 1, _ => cb_113
  | 2, _ => cb_114
  | 3, _ => cb_115
  | 4, _ => cb_116
  | 5, _ => cb_117
  | 6, _ => cb_118
  | 7, _ => cb_119
  | 8, _ => cb_120
  | 9, _ => cb_121
  | 10, _ => cb_122
  | 11, _ => cb_123
  | 12, _ => cb_124
  | 13, _ => cb_125
  | _ + 14, h => absurd h (by omega)
theorem cmg_8 (j : Nat) (h : j < 14) (h0 : 0 < 112 + j) : MOK (112 + j) := match j, h, h0 with
  | 0, _, _ => cm_112
  | 1, _, _ => cm_113
  | 2, _, _ => cm_114
  | 3, _, _ => cm_115
  | 4, _, _ => cm_116
  | 5, _, _ => cm_117
  | 6, _, _ => cm_118
  | 7, _, _ => cm_119
  | 8, _, _ => cm_120
  | 9, _, _ => cm_121
  | 10, _, _ => cm_122
  | 11, _, _ => cm_123
  | 12, _, _ => cm_124
  | 13, _, _ => cm_125
  | _ + 14, h, _ => absurd h (by omega)
theorem cbg_9 (j : Nat) (h : j < 14) : CB (126 + j) := match j, h with
  | 0, _ => cb_126
  | 1, _ => cb_127
  | 2, _ => cb_128
  | 3, _ => cb_129
  | 4, _ => cb_130
  | 5, _ => cb_131
  | 6, _ => cb_132
  | 7, _ => cb_133
  | 8, _ => cb_134
  | 9, _ => cb_135
  | 10, _ => cb_136
  | 11, _ => cb_137
  | 12, _ => cb_138
  | 13, _ => cb_139
  | _ + 14, h => absurd h (by omega)
theorem cmg_9 (j : Nat) (h : j < 14) (h0 : 0 < 126 + j) : MOK (126 + j) := match j, h, h0 with
  | 0, _, _ => cm_126
  | 1, _, _ => cm_127
  | 2, _, _ => cm_128
  | 3, _, _ => cm_129
  | 4, _, _ => cm_130
  | 5, _, _ => cm_131
  | 6, _, _ => cm_132
  | 7, _, _ => cm_133
  | 8, _, _ => cm_134
  | 9, _, _ => cm_135
  | 10, _, _ => cm_136
  | 11, _, _ => cm_137
  | 12, _, _ => cm_138
  | 13, _, _ => cm_139
  | _ + 14, h, _ => absurd h (by omega)
theorem cbg_10 (j : Nat) (h : j < 14) : CB (140 + j) := match j, h with
  | 0, _ => cb_140
  | 1, _ => cb_141
  | 2, _ => cb_142
  | 3, _ => cb_143
  | 4, _ => cb_144
  | 5, _ => cb_145
  | 6, _ => cb_146
  | 7, _ => cb_147
  | 8, _ => cb_148
  | 9, _ => cb_149
  | 10, _ => cb_150
  | 11, _ => cb_151
  | 12, _ => cb_152
  | 13, _ => cb_153
  | _ + 14, h => absurd h (by omega)
theorem cmg_10 (j : Nat) (h : j < 14) (h0 : 0 < 140 + j) : MOK (140 + j) := match j, h, h0 with
  | 0, _, _ => cm_140
  | 1, _, _ => cm_141
  | 2, _, _ => cm_142
  | 3, _, _ => cm_143
  | 4, _, _ => cm_144
  | 5, _, _ => cm_145
  | 6, _, _ => cm_146
  | 7, _, _ => cm_147
  | 8, _, _ => cm_148
  | 9, _, _ => cm_149
  | 10, _, _ => cm_150
  | 11, _, _ => cm_151
  | 12, _, _ => cm_152
  | 13, _, _ => cm_153
  | _ + 14, h, _ => absurd h (by omega)
theorem cbg_11 (j : Nat) (h : j < 14) : CB (154 + j) := match j, h with
  | 0, _ => cb_154
  | 1, _ => cb_155
  | 2, _ => cb_156
  | 3, _ => cb_157
  | 4, _ => cb_158
  | 5, _ => cb_159
  | 6, _ => cb_160
  | 7, _ => cb_161
  | 8, _ => cb_162
  | 9, _ => cb_163
  | 10, _ => cb_164
  | 11, _ => cb_165
  | 12, _ => cb_166
  | 13, _ => cb_167
  | _ + 14, h => absurd h (by omega)
theorem cmg_11 (j : Nat) (h : j < 14) (h0 : 0 < 154 + j) : MOK (154 + j) := match j, h, h0 with
  | 0, _, _ => cm_154
  | 1, _, _ => cm_155
  | 2, _, _ => cm_156
  | 3, _, _ => cm_157
  | 4, _, _ => cm_158
  | 5, _, _ => cm_159
  | 6, _, _ => cm_160
  | 7, _, _ => cm_161
  | 8, _, _ => cm_162
  | 9, _, _ => cm_163
  | 10, _, _ => cm_164
  | 11, _, _ => cm_165
  | 12, _, _ => cm_166
  | 13, _, _ => cm_167
  | _ + 14, h, _ => absurd h (by omega)
theorem cbg_12 (j : Nat) (h : j < 14) : CB (168 + j) := match j, h with
  | 0, _ => cb_168
  | 1, _ => cb_169
  | 2, _ => cb_170
  | 3, _ => cb_171
  | 4, _ => cb_172
  | 5, _ => cb_173
  | 6, _ => cb_174
  | 7, _ => cb_175
  | 8, _ => cb_176
  | 9, _ => cb_177
  | 10, _ => cb_178
  | 11, _ => cb_179
  | 12, _ => cb_180
  | 13, _ => cb_181
  | _ + 14, h => absurd h (by omega)
theorem cmg_12 (j : Nat) (h : j < 14) (h0 : 0 < 168 + j) : MOK (168 + j) := match j, h, h0 with
  | 0, _, _ => cm_168
  | 1, _, _ => cm_169
  | 2, _, _ => cm_170
  | 3, _, _ => cm_171
  | 4, _, _ => cm_172
  | 5, _, _ => cm_173
  | 6, _, _ => cm_174
  | 7, _, _ => cm_175
  | 8, _, _ => cm_176
  | 9, _, _ => cm_177
  | 10, _, _ => cm_178
  | 11, _, _ => cm_179
  | 12, _, _ => cm_180
  | 13, _, _ => cm_181
  | _ + 14, h, _ => absurd h (by omega)
theorem cbg_13 (j : Nat) (h : j < 8) : CB (182 + j) := match j, h with
  | 0, _ => cb_182
  | 1, _ => cb_183
  | 2, _ => cb_184
  | 3, _ => cb_185
  | 4, _ => cb_186
  | 5, _ => cb_187
  | 6, _ => cb_188
  | 7, _ => cb_189
  | _ + 8, h => absurd h (by omega)
theorem cmg_13 (j : Nat) (h : j < 8) (h0 : 0 < 182 + j) : MOK (182 + j) := match j, h, h0 with
  | 0, _, _ => cm_182
  | 1, _, _ => cm_183
  | 2, _, _ => cm_184
  | 3, _, _ => cm_185
  | 4, _, _ => cm_186
  | 5, _, _ => cm_187
  | 6, _, _ => cm_188
  | 7, _, _ => cm_189
  | _ + 8, h, _ => absurd h (by omega)
theorem cb_all {M : Nat} (h : M < 190) : CB M := (if h0_14 : M < 98 then (if h0_7 : M < 42 then (if h0_3 : M < 14 then (by
      have h9 := cbg_0 (M - 0) (by omega)
      rwa [show 0 + (M - 0) = M by omega] at h9) else (if h1_3 : M < 28 then (by
      have h9 := cbg_1 (M - 14) (by omega)
      rwa [show 14 + (M - 14) = M by omega] at h9) else (by
      have h9 := cbg_2 (M - 28) (by omega)
      rwa [show 28 + (M - 28) = M by omega] at h9))) else (if h3_7 : M < 70 then (if h3_5 : M < 56 then (by
      have h9 := cbg_3 (M - 42) (by omega)
      rwa [show 42 + (M - 42) = M by omega] at h9) else (by
      have h9 := cbg_4 (M - 56) (by omega)
      rwa [show 56 + (M - 56) = M by omega] at h9)) else (if h5_7 : M < 84 then (by
      have h9 := cbg_5 (M - 70) (by omega)
      rwa [show 70 + (M - 70) = M by omega] at h9) else (by
      have h9 := cbg_6 (M - 84) (by omega)
      rwa [show 84 + (M - 84) = M by omega] at h9)))) else (if h7_14 : M < 140 then (if h7_10 : M < 112 then (by
      have h9 := cbg_7 (M - 98) (by omega)
      rwa [show 98 + (M - 98) = M by omega] at h9) else (if h8_10 : M < 126 then (by
      have h9 := cbg_8 (M - 112) (by omega)
      rwa [show 112 + (M - 112) = M by omega] at h9) else (by
      have h9 := cbg_9 (M - 126) (by omega)
      rwa [show 126 + (M - 126) = M by omega] at h9))) else (if h10_14 : M < 168 then (if h10_12 : M < 154 then (by
      have h9 := cbg_10 (M - 140) (by omega)
      rwa [show 140 + (M - 140) = M by omega] at h9) else (by
      have h9 := cbg_11 (M - 154) (by omega)
      rwa [show 154 + (M - 154) = M by omega] at h9)) else (if h12_14 : M < 182 then (by
      have h9 := cbg_12 (M - 168) (by omega)
      rwa [show 168 + (M - 168) = M by omega] at h9) else (by
      have h9 := cbg_13 (M - 182) (by omega)
      rwa [show 182 + (M - 182) = M by omega] at h9)))))
theorem cm_all {M : Nat} (h0 : 0 < M) (h : M < 190) : MOK M := (if h0_14 : M < 98 then (if h0_7 : M < 42 then (if h0_3 : M < 14 then (by
      have h9 := cmg_0 (M - 0) (by omega) (by omega)
      rwa [show 0 + (M - 0) = M by omega] at h9) else (if h1_3 : M < 28 then (by
      have h9 := cmg_1 (M - 14) (by omega) (by omega)
      rwa [show 14 + (M - 14) = M by omega] at h9) else (by
      have h9 := cmg_2 (M - 28) (by omega) (by omega)
      rwa [show 28 + (M - 28) = M by omega] at h9))) else (if h3_7 : M < 70 then (if h3_5 : M < 56 then (by
      have h9 := cmg_3 (M - 42) (by omega) (by omega)
      rwa [show 42 + (M - 42) = M by omega] at h9) else (by
      have h9 := cmg_4 (M - 56) (by omega) (by omega)
      rwa [show 56 + (M - 56) = M by omega] at h9)) else (if h5_7 : M < 84 then (by
      have h9 := cmg_5 (M - 70) (by omega) (by omega)
      rwa [show 70 + (M - 70) = M by omega] at h9) else (by
      have h9 := cmg_6 (M - 84) (by omega) (by omega)
      rwa [show 84 + (M - 84) = M by omega] at h9)))) else (if h7_14 : M < 140 then (if h7_10 : M < 112 then (by
      have h9 := cmg_7 (M - 98) (by omega) (by omega)
      rwa [show 98 + (M - 98) = M by omega] at h9) else (if h8_10 : M < 126 then (by
      have h9 := cmg_8 (M - 112) (by omega) (by omega)
      rwa [show 112 + (M - 112) = M by omega] at h9) else (by
      have h9 := cmg_9 (M - 126) (by omega) (by omega)
      rwa [show 126 + (M - 126) = M by omega] at h9))) else (if h10_14 : M < 168 then (if h10_12 : M < 154 then (by
      have h9 := cmg_10 (M - 140) (by omega) (by omega)
      rwa [show 140 + (M - 140) = M by omega] at h9) else (by
      have h9 := cmg_11 (M - 154) (by omega) (by omega)
      rwa [show 154 + (M - 154) = M by omega] at h9)) else (if h12_14 : M < 182 then (by
      have h9 := cmg_12 (M - 168) (by omega) (by omega)
      rwa [show 168 + (M - 168) = M by omega] at h9) else (by
      have h9 := cmg_13 (M - 182) (by omega) (by omega)
      rwa [show 182 + (M - 182) = M by omega] at h9)))))
theorem nth_nil {α : Type} (n : Nat) (d : α) : nth [] n d = d := by cases n <;> rfl
theorem nth_ge {α : Type} : ∀ {l : List α} {n : Nat} {d : α}, l.length ≤ n → nth l n d = d
  | [], n, d, _ => nth_nil n d
  | _ :: t, 0, _, h => by simp at h
  | _ :: t, n + 1, d, h => nth_ge (l := t) (by simpa using h)
theorem chkC_at {y : MethodName} {bs : ByteArray} {rt : Option FieldType} : ∀ {l : List (Option INS)} {b j : Nat} {q : INS}, chkC y bs rt b l = true → nth l j none = some q → chkI y bs rt (b + j) q = true
  | [], b, j, q, _, h => by rw [nth_nil] at h; cases h
  | none :: t, b, j, q, hc, h => by
    simp only [chkC] at hc
    cases j with
    | zero => cases h
    | succ j => have := chkC_at hc h; rwa [show b + 1 + j = b + (j + 1) by omega] at this
  | some q0 :: t, b, j, q, hc, h => by
    simp only [chkC, Bool.and_eq_true] at hc
    cases j with
    | zero => cases h; exact hc.1
    | succ j => have := chkC_at hc.2 h; rwa [show b + 1 + j = b + (j + 1) by omega] at this
theorem chkB_at {y : MethodName} {bs : ByteArray} {rt : Option FieldType} : ∀ {l : List (List (Option INS))} {b k j : Nat} {q : INS}, chkB y bs rt b l = true → nth (nth l k []) j none = some q → chkI y bs rt (b + 16 * k + j) q = true
  | [], b, k, j, q, _, h => by rw [nth_nil, nth_nil] at h; cases h
  | c :: t, b, k, j, q, hc, h => by
    simp only [chkB, Bool.and_eq_true] at hc
    cases k with
    | zero => exact chkC_at hc.1 h
    | succ k => have := chkB_at hc.2 h; rwa [show b + 16 + 16 * k + j = b + 16 * (k + 1) + j by omega] at this
theorem tab_len : tab.length = 14 := rfl
theorem fetch_lt {M pc : Nat} {q : INS} (h : fetch M pc = some q) : M < NM := by
  unfold fetch at h
  unfold NM
  apply Classical.byContradiction
  intro hM
  have hM : 190 ≤ M := by omega
  have e : nth (nth tab (M / 14) []) (M % 14) ([] : List (List (Option INS))) = [] := by
    by_cases h14 : 14 ≤ M / 14
    · rw [nth_ge (l := tab) (by rw [tab_len]; exact h14), nth_nil]
    · have h13 : M / 14 = 13 := by omega
      rw [h13]
      apply nth_ge
      show (8 : Nat) ≤ M % 14
      omega
  rw [e, nth_nil, nth_nil] at h
  cases h
theorem fetch_ok {M pc : Nat} {q : INS} (h : fetch M pc = some q) : decode (minf M).2.1 pc = .ok (q.1, q.2.1) ∧ chkA (minf M).1 (minf M).2.1 (minf M).2.2.2.1 pc q = true := by
  have h1 : CB M := cb_all (fetch_lt h)
  have h2 := chkB_at h1 h
  rw [show 0 + 16 * (pc / 16) + pc % 16 = pc by omega] at h2
  unfold chkI at h2
  rw [Bool.and_eq_true] at h2
  exact ⟨of_decide_eq_true h2.1, h2.2⟩
end
section
/-! THE ABSTRACT MACHINE: values are ints (of their range), longs, keys of cells; a heap is a function from keys to cells; one function runs it. -/
abbrev AK : Type := Nat × Nat
abbrev AV : Type := Int ⊕ Int ⊕ Option AK
def vi (x : Int) : AV := .inl x
def vl (x : Int) : AV := .inr (.inl x)
def vr (t i : Nat) : AV := .inr (.inr (some (t, i)))
abbrev AE : Type := (Nat × Nat × (Nat → Int)) ⊕ (Nat × Nat × (Nat → Option AK)) ⊕ (Nat × (Nat → AV))
abbrev AM : Type := AK → AE
abbrev AMem : Type := AM × Nat × Nat
abbrev ALs : Type := List (Option AV)
abbrev ROut : Type := (Nat × ALs × List AV × AMem) ⊕ (Option AV) ⊕ (Nat × List AV × List AV × Nat)
def w32 (x : Int) : Int := Int.bmod x 4294967296
def w64 (x : Int) : Int := Int.bmod x 18446744073709551616
def w8 (x : Int) : Int := Int.bmod x 256
def i_and (x y : Int) : Int := (Int32.ofInt x &&& Int32.ofInt y).toInt
def i_or (x y : Int) : Int := (Int32.ofInt x ||| Int32.ofInt y).toInt
def i_xor (x y : Int) : Int := (Int32.ofInt x ^^^ Int32.ofInt y).toInt
def i_shl (x y : Int) : Int := (Int32.ofInt x <<< (Int32.ofInt y &&& 31)).toInt
def i_shr (x y : Int) : Int := (Int32.ofInt x >>> (Int32.ofInt y &&& 31)).toInt
def i_ushr (x y : Int) : Int := ((Int32.ofInt x).toUInt32 >>> ((Int32.ofInt y).toUInt32 &&& Int32.toUInt32 31)).toInt32.toInt
def l_cmp (x y : Int) : Int := if y < x then 1 else if x = y then 0 else -1
def upM (m : AM) (k : AK) (e : AE) : AM := fun q => if q = k then e else m q
def upF {α : Type} (f : Nat → α) (k : Nat) (v : α) : Nat → α := fun q => if q = k then v else f q
def cpF (f g : Nat → Int) (sp dp n : Nat) : Nat → Int := fun k => if dp ≤ k ∧ k < dp + n then f (sp + (k - dp)) else g k
/-- the names of the cells, in the order in which they are made -/
def nmL : List AK := [(0, 0), (1, 0), (2, 0), (20, 0), (21, 0), (22, 0), (23, 0), (24, 0), (25, 0), (26, 0), (27, 0), (4, 0), (5, 0), (30, 0), (31, 0), (32, 0), (11, 0), (12, 0), (13, 0),
  (28, 0), (29, 0), (28, 1), (29, 1), (28, 2), (29, 2), (28, 3), (29, 3), (28, 4), (29, 4), (28, 5), (29, 5), (28, 6), (29, 6), (28, 7), (29, 7), (28, 8), (29, 8), (28, 9), (29, 9),
  (20, 1), (21, 1), (22, 1), (23, 1), (24, 1), (25, 1), (26, 1), (27, 1), (20, 2), (21, 2), (22, 2), (23, 2), (24, 2), (25, 2), (26, 2), (27, 2), (20, 3), (21, 3), (22, 3), (23, 3), (24, 3), (25, 3), (26, 3), (27, 3),
  (39, 0), (40, 0), (41, 0), (42, 0), (43, 0), (45, 0), (46, 0), (47, 0), (48, 0), (50, 0), (51, 0), (56, 0), (58, 0), (59, 0), (60, 0), (61, 0), (62, 0), (63, 0)]
def nm (j : Nat) : AK := nth nmL j (98, 0)
def NTOT : Nat := 81
def dfv (a b : Nat) : AV := match clF a b with
  | 0 => vi 0
  | 1 => vl 0
  | _ => .inr (.inr none)
def kl (o : Option AV) : Option AV := match o with
  | some (.inr (.inl _)) => none
  | o => o
/-- a local set: a long that stood just ahead of it is lost -/
def setL : ALs → Nat → AV → Option ALs
  | [], _, _ => none
  | _ :: t, 0, v => some (some v :: t)
  | o :: [], _ + 1, _ => none
  | o :: _ :: t, 1, v => some (kl o :: some v :: t)
  | o :: t, n + 2, v => match setL t (n + 1) v with
    | some t' => some (o :: t')
    | none => none
def setW : ALs → Nat → AV → Option ALs
  | _ :: _ :: t, 0, v => some (some v :: none :: t)
  | o :: _ :: _ :: t, 1, v => some (kl o :: some v :: none :: t)
  | o :: t, n + 2, v => match setW t (n + 1) v with
    | some t' => some (o :: t')
    | none => none
  | _, _, _ => none
def nx (pc : Nat) (ls : ALs) (st : List AV) (mm : AMem) : Option ROut := some (.inl (pc, ls, st, mm))
def ldI (ls : ALs) (k pc : Nat) (st : List AV) (mm : AMem) : Option ROut := match nth ls k none with
  | some (.inl x) => nx pc ls (vi x :: st) mm
  | _ => none
def ldL (ls : ALs) (k pc : Nat) (st : List AV) (mm : AMem) : Option ROut := match nth ls k none with
  | some (.inr (.inl x)) => nx pc ls (vl x :: st) mm
  | _ => none
def ldA (ls : ALs) (k pc : Nat) (st : List AV) (mm : AMem) : Option ROut := match nth ls k none with
  | some (.inr (.inr (some x))) => nx pc ls (vr x.1 x.2 :: st) mm
  | _ => none
def stI (ls : ALs) (k pc : Nat) (st : List AV) (mm : AMem) : Option ROut := match st with
  | .inl x :: r => match setL ls k (vi x) with
    | some ls' => nx pc ls' r mm
    | none => none
  | _ => none
def stL (ls : ALs) (k pc : Nat) (st : List AV) (mm : AMem) : Option ROut := match st with
  | .inr (.inl x) :: r => match setW ls k (vl x) with
    | some ls' => nx pc ls' r mm
    | none => none
  | _ => none
def stA (ls : ALs) (k pc : Nat) (st : List AV) (mm : AMem) : Option ROut := match st with
  | .inr (.inr (some x)) :: r => match setL ls k (vr x.1 x.2) with
    | some ls' => nx pc ls' r mm
    | none => none
  | _ => none
def bnI (f : Int → Int → Int) (pc : Nat) (ls : ALs) (st : List AV) (mm : AMem) : Option ROut := match st with
  | .inl y :: .inl x :: r => nx (pc + 1) ls (vi (f x y) :: r) mm
  | _ => none
def bnD (f : Int → Int → Int) (pc : Nat) (ls : ALs) (st : List AV) (mm : AMem) : Option ROut := match st with
  | .inl y :: .inl x :: r => if y = 0 then none else nx (pc + 1) ls (vi (f x y) :: r) mm
  | _ => none
def bnL (f : Int → Int → Int) (pc : Nat) (ls : ALs) (st : List AV) (mm : AMem) : Option ROut := match st with
  | .inr (.inl y) :: .inr (.inl x) :: r => nx (pc + 1) ls (vl (f x y) :: r) mm
  | _ => none
def bnM (f : Int → Int → Int) (pc : Nat) (ls : ALs) (st : List AV) (mm : AMem) : Option ROut := match st with
  | .inr (.inl y) :: .inr (.inl x) :: r => if y = 0 then none else nx (pc + 1) ls (vl (f x y) :: r) mm
  | _ => none
def jmp (pc : Nat) (off : Int) : Nat := ((pc : Int) + off).toNat
def br2 (c : Int → Int → Bool) (pc : Nat) (off : Int) (ls : ALs) (st : List AV) (mm : AMem) : Option ROut := match st with
  | .inl y :: .inl x :: r => nx (bif c x y then jmp pc off else pc + 3) ls r mm
  | _ => none
def br1 (c : Int → Bool) (pc : Nat) (off : Int) (ls : ALs) (st : List AV) (mm : AMem) : Option ROut := match st with
  | .inl x :: r => nx (bif c x then jmp pc off else pc + 3) ls r mm
  | _ => none
def exGet (a b pc : Nat) (ls : ALs) (st : List AV) (mm : AMem) : Option ROut := match st with
  | .inr (.inr (some k)) :: r => match mm.1 k with
    | .inr (.inr (c, f)) => bif Nat.beq c a then nx (pc + 3) ls (f b :: r) mm else none
    | _ => none
  | _ => none
def fitF (t : Nat) (v : AV) : Bool := match t, v with
  | 0, .inl _ => true
  | 1, .inr (.inl _) => true
  | 2, .inr (.inr (some _)) => true
  | _, _ => false
def exPut (M a b pc : Nat) (ls : ALs) (st : List AV) (mm : AMem) : Option ROut := match st with
  | v :: .inr (.inr (some k)) :: r => match mm.1 k with
    | .inr (.inr (c, f)) => bif Nat.beq c a && fitF (clF a b) v && Nat.ble 1 M then nx (pc + 3) ls r (upM mm.1 k (.inr (.inr (c, upF f b v))), mm.2) else none
    | _ => none
  | _ => none
def exLd (pc : Nat) (ls : ALs) (st : List AV) (mm : AMem) : Option ROut := match st with
  | .inl i :: .inr (.inr (some k)) :: r => match mm.1 k with
    | .inl (kd, n, f) => bif Nat.beq kd 0 || Nat.beq kd 4 then (if 0 ≤ i ∧ i < n then nx (pc + 1) ls (vi (f i.toNat) :: r) mm else none) else none
    | _ => none
  | _ => none
def exSt (pc : Nat) (ls : ALs) (st : List AV) (mm : AMem) : Option ROut := match st with
  | .inl x :: .inl i :: .inr (.inr (some k)) :: r => match mm.1 k with
    | .inl (kd, n, f) => bif Nat.beq kd 0 then (if 0 ≤ i ∧ i < n then nx (pc + 1) ls r (upM mm.1 k (.inl (kd, n, upF f i.toNat x)), mm.2) else none) else none
    | _ => none
  | _ => none
def exLdZ (pc : Nat) (ls : ALs) (st : List AV) (mm : AMem) : Option ROut := match st with
  | .inl i :: .inr (.inr (some k)) :: r => match mm.1 k with
    | .inl (kd, n, f) => bif Nat.beq kd 1 then (if 0 ≤ i ∧ i < n then nx (pc + 1) ls (vi (f i.toNat) :: r) mm else none) else none
    | _ => none
  | _ => none
def exStZ (pc : Nat) (ls : ALs) (st : List AV) (mm : AMem) : Option ROut := match st with
  | .inl x :: .inl i :: .inr (.inr (some k)) :: r => match mm.1 k with
    | .inl (kd, n, f) => bif Nat.beq kd 1 then (if (x = 0 ∨ x = 1) ∧ 0 ≤ i ∧ i < n then nx (pc + 1) ls r (upM mm.1 k (.inl (kd, n, upF f i.toNat x)), mm.2) else none) else none
    | _ => none
  | _ => none
def exLdA (pc : Nat) (ls : ALs) (st : List AV) (mm : AMem) : Option ROut := match st with
  | .inl i :: .inr (.inr (some k)) :: r => match mm.1 k with
    | .inr (.inl (_, n, f)) => if 0 ≤ i ∧ i < n then (match f i.toNat with
      | some q => nx (pc + 1) ls (vr q.1 q.2 :: r) mm
      | none => none) else none
    | _ => none
  | _ => none
def exStA (M pc : Nat) (ls : ALs) (st : List AV) (mm : AMem) : Option ROut := match st with
  | .inr (.inr (some v)) :: .inl i :: .inr (.inr (some k)) :: r => match mm.1 k, mm.1 v with
    | .inr (.inl (kd, n, f)), .inr (.inr (c, _)) => bif ((Nat.beq kd 2 && Nat.beq c 0) || (Nat.beq kd 3 && Nat.beq c 1)) && Nat.ble 1 M then (if 0 ≤ i ∧ i < n then nx (pc + 1) ls r (upM mm.1 k (.inr (.inl (kd, n, upF f i.toNat (some v)))), mm.2) else none) else none
    | _, _ => none
  | _ => none
def exLen (pc : Nat) (ls : ALs) (st : List AV) (mm : AMem) : Option ROut := match st with
  | .inr (.inr (some k)) :: r => match mm.1 k with
    | .inl (_, n, _) => nx (pc + 1) ls (vi (n : Int) :: r) mm
    | .inr (.inl (_, n, _)) => nx (pc + 1) ls (vi (n : Int) :: r) mm
    | _ => none
  | _ => none
def exNew (a pc : Nat) (ls : ALs) (st : List AV) (mm : AMem) : Option ROut :=
  bif Nat.ble (mm.2.1 + 1) NTOT && Nat.ble a 4 then nx (pc + 3) ls (vr (nm mm.2.1).1 (nm mm.2.1).2 :: st) (upM mm.1 (nm mm.2.1) (.inr (.inr (a, dfv a))), mm.2.1 + 1, mm.2.2 + clK a) else none
def exNewI (kd pc : Nat) (ls : ALs) (st : List AV) (mm : AMem) : Option ROut := match st with
  | .inl n :: r => bif Nat.ble (mm.2.1 + 1) NTOT then (if 0 ≤ n ∧ n ≤ 100000 then nx (pc + 2) ls (vr (nm mm.2.1).1 (nm mm.2.1).2 :: r) (upM mm.1 (nm mm.2.1) (.inl (kd, n.toNat, fun _ => 0)), mm.2.1 + 1, mm.2.2 + n.toNat) else none) else none
  | _ => none
def exNewA (kd pc : Nat) (ls : ALs) (st : List AV) (mm : AMem) : Option ROut := match st with
  | .inl n :: r => bif Nat.ble (mm.2.1 + 1) NTOT then (if 0 ≤ n ∧ n ≤ 100000 then nx (pc + 3) ls (vr (nm mm.2.1).1 (nm mm.2.1).2 :: r) (upM mm.1 (nm mm.2.1) (.inr (.inl (kd, n.toNat, fun _ => none))), mm.2.1 + 1, mm.2.2 + n.toNat) else none) else none
  | _ => none
def exCpy (pc : Nat) (ls : ALs) (st : List AV) (mm : AMem) : Option ROut := match st with
  | .inl n :: .inl dp :: .inr (.inr (some k1)) :: .inl sp :: .inr (.inr (some k0)) :: r => match mm.1 k0, mm.1 k1 with
    | .inl (d0, n0, f), .inl (d1, n1, g) => bif Nat.beq d0 0 && Nat.beq d1 0 && Nat.ble r.length 4 then (if 0 ≤ sp ∧ 0 ≤ dp ∧ 0 ≤ n ∧ sp + n ≤ n0 ∧ dp + n ≤ n1 then nx (pc + 3) ls r (upM mm.1 k1 (.inl (d1, n1, cpF f g sp.toNat dp.toNat n.toNat)), mm.2) else none) else none
    | _, _ => none
  | _ => none
def exObj (pc : Nat) (ls : ALs) (st : List AV) (mm : AMem) : Option ROut := match st with
  | .inr (.inr (some _)) :: r => bif Nat.ble r.length 4 then nx (pc + 3) ls r mm else none
  | _ => none
def noScr (v : AV) : Bool := match v with
  | .inr (.inr (some k)) => !(Nat.beq k.1 99)
  | _ => true
def recvOk (mm : AMem) (c : Nat) (v : Option AV) : Bool := match v with
  | some (.inr (.inr (some k))) => match mm.1 k with
    | .inr (.inr (c', _)) => Nat.beq c' c
    | _ => false
  | _ => false
/-- the locals with which a method begins -/
def entL : List AV → ALs
  | [] => []
  | .inr (.inl x) :: t => some (vl x) :: none :: entL t
  | .inl x :: t => some (vi x) :: entL t
  | .inr (.inr v) :: t => some (.inr (.inr v)) :: entL t
def isRf (v : Option AV) : Bool := match v with
  | some (.inr (.inr (some _))) => true
  | _ => false
/-- a call: kind 0 static, 1 virtual, 2 a constructor -/
noncomputable def exCall (kind M M' pc : Nat) (st : List AV) (mm : AMem) : Option ROut :=
  bif Nat.ble (minf M').2.2.2.2.1 st.length && Nat.beq (minf M').2.2.2.2.2.1 kind && Nat.ble (st.drop (minf M').2.2.2.2.1).length 4 && (Nat.ble 1 M || (st.take (minf M').2.2.2.2.1).all noScr)
    && (!(Nat.beq kind 1) || recvOk mm (minf M').2.2.2.2.2.2 (st.take (minf M').2.2.2.2.1).getLast?) && Nat.ble (entL (st.take (minf M').2.2.2.2.1).reverse).length (minf M').2.2.1 && (!(Nat.beq kind 2) || isRf (st.take (minf M').2.2.2.2.1).getLast?)
  then some (.inr (.inr (M', (st.take (minf M').2.2.2.2.1).reverse, st.drop (minf M').2.2.2.2.1, pc + 3))) else none
def exMx (b : Bool) (pc : Nat) (ls : ALs) (st : List AV) (mm : AMem) : Option ROut := match st with
  | .inl y :: .inl x :: r => bif Nat.ble r.length 4 then nx (pc + 3) ls (vi (bif b then (if x < y then y else x) else (if y < x then y else x)) :: r) mm else none
  | _ => none
noncomputable def ex (M pc : Nat) (ls : ALs) (st : List AV) (mm : AMem) (q : INS) : Option ROut :=
  match q.1 with
  | .iconst n => nx (pc + 1) ls (vi n :: st) mm
  | .bipush n => nx (pc + 2) ls (vi n :: st) mm
  | .sipush n => nx (pc + 3) ls (vi n :: st) mm
  | .lconst n => nx (pc + 1) ls (vl (n.val : Int) :: st) mm
  | .ldc _ => nx (pc + 2) ls (vi q.2.2.2.2 :: st) mm
  | .ldc_w _ => nx (pc + 3) ls (vi q.2.2.2.2 :: st) mm
  | .ldc2_w _ => nx (pc + 3) ls (vl q.2.2.2.2 :: st) mm
  | .iload k => ldI ls k (pc + 2) st mm
  | .iload_n k => ldI ls k.val (pc + 1) st mm
  | .lload k => ldL ls k (pc + 2) st mm
  | .lload_n k => ldL ls k.val (pc + 1) st mm
  | .aload k => ldA ls k (pc + 2) st mm
  | .aload_n k => ldA ls k.val (pc + 1) st mm
  | .istore k => stI ls k (pc + 2) st mm
  | .istore_n k => stI ls k.val (pc + 1) st mm
  | .lstore k => stL ls k (pc + 2) st mm
  | .lstore_n k => stL ls k.val (pc + 1) st mm
  | .astore k => stA ls k (pc + 2) st mm
  | .astore_n k => stA ls k.val (pc + 1) st mm
  | .iinc k n => match nth ls k none with
    | some (.inl x) => (match setL ls k (vi (w32 (x + n))) with
      | some ls' => nx (pc + 3) ls' st mm
      | none => none)
    | _ => none
  | .iadd => bnI (fun x y => w32 (x + y)) pc ls st mm
  | .isub => bnI (fun x y => w32 (x - y)) pc ls st mm
  | .imul => bnI (fun x y => w32 (x * y)) pc ls st mm
  | .iand => bnI i_and pc ls st mm
  | .ior => bnI i_or pc ls st mm
  | .ixor => bnI i_xor pc ls st mm
  | .ishl => bnI i_shl pc ls st mm
  | .ishr => bnI i_shr pc ls st mm
  | .iushr => bnI i_ushr pc ls st mm
  | .idiv => bnD (fun x y => w32 (x.tdiv y)) pc ls st mm
  | .irem => bnD (fun x y => x.tmod y) pc ls st mm
  | .ineg => match st with
    | .inl x :: r => nx (pc + 1) ls (vi (w32 (-x)) :: r) mm
    | _ => none
  | .ladd => bnL (fun x y => w64 (x + y)) pc ls st mm
  | .lmul => bnL (fun x y => w64 (x * y)) pc ls st mm
  | .ldiv => bnM (fun x y => w64 (x.tdiv y)) pc ls st mm
  | .lrem => bnM (fun x y => x.tmod y) pc ls st mm
  | .lcmp => match st with
    | .inr (.inl y) :: .inr (.inl x) :: r => nx (pc + 1) ls (vi (l_cmp x y) :: r) mm
    | _ => none
  | .i2l => match st with
    | .inl x :: r => nx (pc + 1) ls (vl x :: r) mm
    | _ => none
  | .l2i => match st with
    | .inr (.inl x) :: r => nx (pc + 1) ls (vi (w32 x) :: r) mm
    | _ => none
  | .i2b => match st with
    | .inl x :: r => nx (pc + 1) ls (vi (w8 x) :: r) mm
    | _ => none
  | .dup => match st with
    | .inl x :: r => nx (pc + 1) ls (vi x :: vi x :: r) mm
    | .inr (.inr (some k)) :: r => nx (pc + 1) ls (vr k.1 k.2 :: vr k.1 k.2 :: r) mm
    | _ => none
  | .dup2 => match st with
    | .inl y :: .inr (.inr (some k)) :: r => nx (pc + 1) ls (vi y :: vr k.1 k.2 :: vi y :: vr k.1 k.2 :: r) mm
    | _ => none
  | .pop => match st with
    | .inl _ :: r => nx (pc + 1) ls r mm
    | _ => none
  | .if_icmp .eq off => br2 (fun x y => decide (x = y)) pc off ls st mm
  | .if_icmp .ne off => br2 (fun x y => !decide (x = y)) pc off ls st mm
  | .if_icmp .lt off => br2 (fun x y => decide (x < y)) pc off ls st mm
  | .if_icmp .ge off => br2 (fun x y => decide (y ≤ x)) pc off ls st mm
  | .if_icmp .gt off => br2 (fun x y => decide (y < x)) pc off ls st mm
  | .if_icmp .le off => br2 (fun x y => decide (x ≤ y)) pc off ls st mm
  | .ifCond .eq off => br1 (fun x => decide (x = 0)) pc off ls st mm
  | .ifCond .ne off => br1 (fun x => !decide (x = 0)) pc off ls st mm
  | .ifCond .lt off => br1 (fun x => decide (x < 0)) pc off ls st mm
  | .ifCond .ge off => br1 (fun x => decide (0 ≤ x)) pc off ls st mm
  | .ifCond .gt off => br1 (fun x => decide (0 < x)) pc off ls st mm
  | .ifCond .le off => br1 (fun x => decide (x ≤ 0)) pc off ls st mm
  | .goto off => nx (jmp pc off) ls st mm
  | .tableswitch dflt lo hi offs => match st with
    | .inl x :: r => nx (jmp pc (if x < lo ∨ hi < x then dflt else nth offs.toList (x - lo).toNat 0)) ls r mm
    | _ => none
  | .lookupswitch dflt ps => match st with
    | .inl x :: r => nx (jmp pc (Op.lookupswitch.offset ps.toList dflt x)) ls r mm
    | _ => none
  | .getfield _ => exGet q.2.2.1 q.2.2.2.1 pc ls st mm
  | .putfield _ => exPut M q.2.2.1 q.2.2.2.1 pc ls st mm
  | .iaload => exLd pc ls st mm
  | .iastore => exSt pc ls st mm
  | .baload => exLdZ pc ls st mm
  | .bastore => exStZ pc ls st mm
  | .aaload => exLdA pc ls st mm
  | .aastore => exStA M pc ls st mm
  | .arraylength => exLen pc ls st mm
  | .new _ => exNew q.2.2.1 pc ls st mm
  | .newarray .int => exNewI 0 pc ls st mm
  | .newarray .boolean => exNewI 1 pc ls st mm
  | .anewarray _ => exNewA q.2.2.1 pc ls st mm
  | .invokestatic _ => bif Nat.beq q.2.2.1 9999 then exCpy pc ls st mm else bif Nat.beq q.2.2.1 9997 then exMx true pc ls st mm else bif Nat.beq q.2.2.1 9996 then exMx false pc ls st mm else exCall 0 M q.2.2.1 pc st mm
  | .invokevirtual _ => exCall 1 M q.2.2.1 pc st mm
  | .invokespecial _ => bif Nat.beq q.2.2.1 9998 then exObj pc ls st mm else exCall 2 M q.2.2.1 pc st mm
  | .ireturn => match st with
    | [.inl x] => bif Nat.beq q.2.2.1 0 then some (.inr (.inl (some (vi x)))) else (if x = 0 ∨ x = 1 then some (.inr (.inl (some (vi x)))) else none)
    | _ => none
  | .lreturn => match st with
    | [.inr (.inl x)] => some (.inr (.inl (some (vl x))))
    | _ => none
  | .return_ => match st with
    | [] => some (.inr (.inl none))
    | _ => none
  | _ => none
def padL : ALs → Nat → ALs
  | l, 0 => l
  | [], n + 1 => none :: padL [] n
  | a :: t, n + 1 => a :: padL t n
noncomputable def entry (M : Nat) (av : List AV) : ALs := padL (entL av) (minf M).2.2.1
noncomputable def go : Nat → Nat → Nat → Nat → ALs → List AV → AMem → Option (Option AV × AMem)
  | 0, _, _, _, _, _, _ => none
  | n + 1, d, M, pc, ls, st, mm =>
    match fetch M pc with
    | none => none
    | some q =>
      match ex M pc ls st mm q with
      | none => none
      | some (.inl (pc', ls', st', mm')) => go n d M pc' ls' st' mm'
      | some (.inr (.inl r)) => some (r, mm)
      | some (.inr (.inr (M', av, rest, pc'))) =>
        match d with
        | 0 => none
        | d' + 1 =>
          match go n d' M' 0 (entry M' av) [] mm with
          | none => none
          | some (r, mm') => go n (d' + 1) M pc' ls (r.toList ++ rest) mm'
end
section
/-! NUMBERS: an abstract int of its range stands for the Int32 of it -/
def i32 (x : Int) : Prop := -2147483648 ≤ x ∧ x ≤ 2147483647
def i64 (x : Int) : Prop := -9223372036854775808 ≤ x ∧ x ≤ 9223372036854775807
theorem w32_in (x : Int) : i32 (w32 x) := by
  have h1 := Int.le_bmod (x := x) (m := 4294967296) (by decide)
  have h2 := Int.bmod_lt (x := x) (m := 4294967296) (by decide)
  unfold i32 w32
  omega
theorem w64_in (x : Int) : i64 (w64 x) := by
  have h1 := Int.le_bmod (x := x) (m := 18446744073709551616) (by decide)
  have h2 := Int.bmod_lt (x := x) (m := 18446744073709551616) (by decide)
  unfold i64 w64
  omega
theorem w8_in (x : Int) : -128 ≤ w8 x ∧ w8 x ≤ 127 := by
  have h1 := Int.le_bmod (x := x) (m := 256) (by decide)
  have h2 := Int.bmod_lt (x := x) (m := 256) (by decide)
  unfold w8
  omega
theorem w32_id {x : Int} (h : i32 x) : w32 x = x := by
  unfold i32 at h
  unfold w32
  exact Int.bmod_eq_of_le (by omega) (by omega)
theorem w64_id {x : Int} (h : i64 x) : w64 x = x := by
  unfold i64 at h
  unfold w64
  exact Int.bmod_eq_of_le (by omega) (by omega)
theorem w8_id {x : Int} (h1 : -128 ≤ x) (h2 : x ≤ 127) : w8 x = x := by
  unfold w8
  exact Int.bmod_eq_of_le (by omega) (by omega)
theorem tI {x : Int} (h : i32 x) : (Int32.ofInt x).toInt = x := by
  rw [Int32.toInt_ofInt]
  exact w32_id h
theorem tL {x : Int} (h : i64 x) : (Int64.ofInt x).toInt = x := by
  rw [Int64.toInt_ofInt]
  exact w64_id h
theorem oI {a : Int32} {x : Int} (h : a.toInt = x) : a = Int32.ofInt x := by rw [← h, Int32.ofInt_toInt]
theorem oL {a : Int64} {x : Int} (h : a.toInt = x) : a = Int64.ofInt x := by rw [← h, Int64.ofInt_toInt]
theorem i32_of (a : Int32) : i32 a.toInt := by
  have h1 := a.toInt_lt
  have h2 := a.le_toInt
  unfold i32
  omega
theorem i64_of (a : Int64) : i64 a.toInt := by
  have h1 := a.toInt_lt
  have h2 := a.le_toInt
  unfold i64
  omega
theorem tN {x : Int} (h : i32 x) : (Int32.ofInt x).toNatClampNeg = x.toNat := by rw [← Int32.toNat_toInt, tI h]
theorem o_add {x y : Int} (h : i32 x) (k : i32 y) : Int32.ofInt x + Int32.ofInt y = Int32.ofInt (w32 (x + y)) := oI (by rw [Int32.toInt_add, tI h, tI k]; rfl)
theorem o_sub {x y : Int} (h : i32 x) (k : i32 y) : Int32.ofInt x - Int32.ofInt y = Int32.ofInt (w32 (x - y)) := oI (by rw [Int32.toInt_sub, tI h, tI k]; rfl)
theorem o_mul {x y : Int} (h : i32 x) (k : i32 y) : Int32.ofInt x * Int32.ofInt y = Int32.ofInt (w32 (x * y)) := oI (by rw [Int32.toInt_mul, tI h, tI k]; rfl)
theorem o_neg {x : Int} (h : i32 x) : -Int32.ofInt x = Int32.ofInt (w32 (-x)) := oI (by rw [Int32.toInt_neg, tI h]; rfl)
theorem o_div {x y : Int} (h : i32 x) (k : i32 y) : Int32.ofInt x / Int32.ofInt y = Int32.ofInt (w32 (x.tdiv y)) := oI (by rw [Int32.toInt_div, tI h, tI k]; rfl)
theorem tmod_in {x y : Int} (h : i32 x) : i32 (x.tmod y) := by
  unfold i32 at *
  have h1 : (x.tmod y).natAbs ≤ x.natAbs := by rw [Int.natAbs_tmod]; exact Nat.mod_le _ _
  rcases Int.le_total 0 x with hx | hx
  · have := Int.tmod_nonneg y hx
    omega
  · have h2 : (x.tmod y) ≤ 0 := by
      have := Int.tmod_nonneg y (show 0 ≤ -x by omega)
      rw [Int.neg_tmod] at this
      omega
    omega
theorem tmod_in64 {x y : Int} (h : i64 x) : i64 (x.tmod y) := by
  unfold i64 at *
  have h1 : (x.tmod y).natAbs ≤ x.natAbs := by rw [Int.natAbs_tmod]; exact Nat.mod_le _ _
  rcases Int.le_total 0 x with hx | hx
  · have := Int.tmod_nonneg y hx
    omega
  · have h2 : (x.tmod y) ≤ 0 := by
      have := Int.tmod_nonneg y (show 0 ≤ -x by omega)
      rw [Int.neg_tmod] at this
      omega
    omega
theorem o_rem {x y : Int} (h : i32 x) (k : i32 y) : Int32.ofInt x - Int32.ofInt x / Int32.ofInt y * Int32.ofInt y = Int32.ofInt (x.tmod y) := oI (by
  rw [Int32.toInt_sub, Int32.toInt_mul, Int32.toInt_div, tI h, tI k, Int.bmod_mul_bmod, Int.sub_bmod_bmod, Int.mul_comm, ← Int.tmod_def]
  exact w32_id (tmod_in h))
theorem ol_add {x y : Int} (h : i64 x) (k : i64 y) : Int64.ofInt x + Int64.ofInt y = Int64.ofInt (w64 (x + y)) := oL (by rw [Int64.toInt_add, tL h, tL k]; rfl)
theorem ol_mul {x y : Int} (h : i64 x) (k : i64 y) : Int64.ofInt x * Int64.ofInt y = Int64.ofInt (w64 (x * y)) := oL (by rw [Int64.toInt_mul, tL h, tL k]; rfl)
theorem ol_div {x y : Int} (h : i64 x) (k : i64 y) : Int64.ofInt x / Int64.ofInt y = Int64.ofInt (w64 (x.tdiv y)) := oL (by rw [Int64.toInt_div, tL h, tL k]; rfl)
theorem ol_rem {x y : Int} (h : i64 x) (k : i64 y) : Int64.ofInt x - Int64.ofInt x / Int64.ofInt y * Int64.ofInt y = Int64.ofInt (x.tmod y) := oL (by
  rw [Int64.toInt_sub, Int64.toInt_mul, Int64.toInt_div, tL h, tL k, Int.bmod_mul_bmod, Int.sub_bmod_bmod, Int.mul_comm, ← Int.tmod_def]
  exact w64_id (tmod_in64 h))
theorem o_i2l {x : Int} (h : i32 x) : (Int32.ofInt x).toInt64 = Int64.ofInt x := oL (by rw [Int32.toInt_toInt64, tI h])
theorem o_l2i {x : Int} (h : i64 x) : (Int64.ofInt x).toInt32 = Int32.ofInt (w32 x) := oI (by rw [Int64.toInt_toInt32, tL h]; rfl)
theorem o_i2b {x : Int} (h : i32 x) : (Int32.ofInt x).toInt8.toInt32 = Int32.ofInt (w8 x) := oI (by rw [Int8.toInt_toInt32, Int32.toInt_toInt8, tI h]; rfl)
theorem o_bi {n : Int} (h1 : -128 ≤ n) (h2 : n ≤ 127) : (Int8.ofInt n).toInt32 = Int32.ofInt n := oI (by rw [Int8.toInt_toInt32, Int8.toInt_ofInt]; exact w8_id h1 h2)
theorem o_si {n : Int} (h1 : -32768 ≤ n) (h2 : n ≤ 32767) : (Int16.ofInt n).toInt32 = Int32.ofInt n := oI (by rw [Int16.toInt_toInt32, Int16.toInt_ofInt]; show n.bmod 65536 = n; exact Int.bmod_eq_of_le (by omega) (by omega))
theorem o_lt {x y : Int} (h : i32 x) (k : i32 y) : Int32.ofInt x < Int32.ofInt y ↔ x < y := by rw [Int32.lt_iff_toInt_lt, tI h, tI k]
theorem o_le {x y : Int} (h : i32 x) (k : i32 y) : Int32.ofInt x ≤ Int32.ofInt y ↔ x ≤ y := by rw [Int32.le_iff_toInt_le, tI h, tI k]
theorem o_eq {x y : Int} (h : i32 x) (k : i32 y) : Int32.ofInt x = Int32.ofInt y ↔ x = y := by rw [← Int32.toInt_inj, tI h, tI k]
theorem ol_lt {x y : Int} (h : i64 x) (k : i64 y) : Int64.ofInt x < Int64.ofInt y ↔ x < y := by rw [Int64.lt_iff_toInt_lt, tL h, tL k]
theorem ol_eq {x y : Int} (h : i64 x) (k : i64 y) : Int64.ofInt x = Int64.ofInt y ↔ x = y := by rw [← Int64.toInt_inj, tL h, tL k]
theorem o_zero : (0 : Int32) = Int32.ofInt 0 := by decide
theorem ol_zero : (0 : Int64) = Int64.ofInt 0 := by decide
theorem i32_0 : i32 0 := ⟨by decide, by decide⟩
theorem i64_0 : i64 0 := ⟨by decide, by decide⟩
theorem i32_wide {x : Int} (h : i32 x) : i64 x := ⟨by unfold i32 at h; omega, by unfold i32 at h; omega⟩
theorem o_cmp {x y : Int} (h : i64 x) (k : i64 y) : lg_cmp (Int64.ofInt x) (Int64.ofInt y) = Int32.ofInt (l_cmp x y) := by
  unfold lg_cmp l_cmp
  simp only [ol_lt k h, ol_eq h k]
  split
  · decide
  · split <;> decide
theorem l_cmp_in (x y : Int) : i32 (l_cmp x y) := by
  unfold l_cmp i32
  split
  · omega
  · split <;> omega
/-- an index in its range -/
theorem o_vp {i : Int} {n : Nat} (h : i32 i) (h0 : 0 ≤ i) (h1 : i < n) : vp_in (Int32.ofInt i) n := by
  rw [vp_in_iff, tI h]
  exact ⟨h0, h1⟩
theorem ix_i32 {i : Int} {n : Nat} (hn : n < 2147483648) (h0 : 0 ≤ i) (h1 : i < n) : i32 i := by
  unfold i32
  omega
end
section
/-! WHAT AN ABSTRACT STATE STANDS FOR -/
def cv (ad : AK → Nat) (v : AV) : Value := match v with
  | .inl x => .int (Int32.ofInt x)
  | .inr (.inl x) => .long (Int64.ofInt x)
  | .inr (.inr (some k)) => .ref (ad k)
  | .inr (.inr none) => .null
def ce (dA : Nat → ClassId) (ad : AK → Nat) (e : AE) : va_E := match e with
  | .inl (kd, n, f) => .inl (dA kd, n, .inl (fun j => Int32.ofInt (f j)))
  | .inr (.inl (kd, n, f)) => .inl (dA kd, n, .inr (.inr (.inr (.inr (fun j => (f j).map ad)))))
  | .inr (.inr (c, f)) => .inr (c, (List.range (clK c)).map (fun k => cv ad (f k)))
def tyA (dA : Nat → ClassId) : List (ClassId × FieldType) := [(dA 0, .int), (dA 1, .boolean), (dA 2, .object "FerryChange$Ferry"), (dA 3, .object "FerryChange$Row")]
def wl (dA : Nat → ClassId) (ad : AK → Nat) (mm : AMem) : va_W := (List.range mm.2.1).map (fun j => (ad (nm j), ce dA ad (mm.1 (nm j))))
def okv (N : Nat) (sg : Bool) (v : AV) : Prop := match v with
  | .inl x => i32 x
  | .inr (.inl x) => i64 x
  | .inr (.inr (some k)) => (∃ j, j < N ∧ nm j = k) ∨ (sg = true ∧ k = (99, 0))
  | .inr (.inr none) => True
def okE (N : Nat) (e : AE) : Prop := match e with
  | .inl (kd, n, f) => kd < 2 ∧ n < 2147483648 ∧ ∀ j, i32 (f j)
  | .inr (.inl (kd, n, f)) => (kd = 2 ∨ kd = 3) ∧ n < 2147483648 ∧ ∀ j k, f j = some k → ∃ i, i < N ∧ nm i = k
  | .inr (.inr (c, f)) => c < 5 ∧ ∀ b, okv N false (f b)
def okM (mm : AMem) : Prop := mm.2.1 ≤ NTOT ∧ ∀ j, j < mm.2.1 → okE mm.2.1 (mm.1 (nm j))
theorem okv_mono {N N' : Nat} {sg : Bool} {v : AV} (h : N ≤ N') (k : okv N sg v) : okv N' sg v := by
  rcases v with x | x | (_ | x)
  · exact k
  · exact k
  · trivial
  · rcases k with ⟨j, h1, h2⟩ | k
    · exact Or.inl ⟨j, Nat.lt_of_lt_of_le h1 h, h2⟩
    · exact Or.inr k
theorem okv_true {N : Nat} {sg : Bool} {v : AV} (k : okv N false v) : okv N sg v := by
  rcases v with x | x | (_ | x)
  · exact k
  · exact k
  · trivial
  · rcases k with k | ⟨k, _⟩
    · exact Or.inl k
    · cases k
theorem okE_mono {N N' : Nat} {e : AE} (h : N ≤ N') (k : okE N e) : okE N' e := by
  rcases e with ⟨a, n, f⟩ | ⟨a, n, f⟩ | ⟨a, f⟩
  · exact k
  · refine ⟨k.1, k.2.1, fun j q hq => ?_⟩
    obtain ⟨i, h1, h2⟩ := k.2.2 j q hq
    exact ⟨i, Nat.lt_of_lt_of_le h1 h, h2⟩
  · exact ⟨k.1, fun b => okv_mono h (k.2 b)⟩
theorem nm_injB : ((List.range 81).all fun i => (List.range 81).all fun j => Nat.beq i j || !decide (nm i = nm j)) = true := by decide +kernel
theorem nm_99B : ((List.range 81).all fun i => !decide (nm i = (99, 0))) = true := by decide +kernel
theorem nm_inj {i j : Nat} (hi : i < NTOT) (hj : j < NTOT) (h : nm i = nm j) : i = j := by
  have h1 := List.all_eq_true.mp nm_injB i (List.mem_range.mpr hi)
  have h2 := List.all_eq_true.mp h1 j (List.mem_range.mpr hj)
  simp [h] at h2
  exact h2
theorem nm_99 {i : Nat} (hi : i < NTOT) : nm i ≠ (99, 0) := by
  have h1 := List.all_eq_true.mp nm_99B i (List.mem_range.mpr hi)
  simpa using h1
theorem wl_len (dA : Nat → ClassId) (ad : AK → Nat) (mm : AMem) : (wl dA ad mm).length = mm.2.1 := by simp [wl]
theorem wl_get {dA : Nat → ClassId} {ad : AK → Nat} {mm : AMem} {j : Nat} (h : j < mm.2.1) : (wl dA ad mm)[j]? = some (ad (nm j), ce dA ad (mm.1 (nm j))) := by
  simp [wl, h]
theorem wl_get2 {dA : Nat → ClassId} {ad : AK → Nat} {mm : AMem} {j : Nat} {k : AK} {e : AE} (h : j < mm.2.1) (hk : nm j = k) (he : mm.1 k = e) : (wl dA ad mm)[j]? = some (ad k, ce dA ad e) := by
  subst hk; subst he; exact wl_get h
theorem wl_set {dA : Nat → ClassId} {ad : AK → Nat} {mm : AMem} {j : Nat} {k : AK} (e : AE) (hM : mm.2.1 ≤ NTOT) (h : j < mm.2.1) (hk : nm j = k) : (wl dA ad mm).set j (ad k, ce dA ad e) = wl dA ad (upM mm.1 k e, mm.2) := by
  subst hk
  apply List.ext_getElem?
  intro i
  rw [List.getElem?_set]
  by_cases hi : i < mm.2.1
  · by_cases hij : j = i
    · subst hij
      simp [wl, hi, upM]
    · have hne : nm i ≠ nm j := fun q => hij (nm_inj (Nat.lt_of_lt_of_le h hM) (Nat.lt_of_lt_of_le hi hM) q.symm)
      simp [wl, hi, hij, upM, hne]
  · simp [wl, hi]
    omega
theorem cv_congr {N : Nat} {ad ad' : AK → Nat} (hag : ∀ j, j < N → ad' (nm j) = ad (nm j)) {v : AV} (h : okv N false v) : cv ad' v = cv ad v := by
  rcases v with x | x | (_ | x)
  · rfl
  · rfl
  · rfl
  · rcases h with ⟨j, h1, h2⟩ | ⟨h, _⟩
    · show Value.ref _ = Value.ref _
      rw [← h2, hag j h1]
    · cases h
theorem cv_congr2 {N : Nat} {sg : Bool} {ad ad' : AK → Nat} (hag : ∀ j, j < N → ad' (nm j) = ad (nm j)) (h99 : ad' (99, 0) = ad (99, 0)) {v : AV} (h : okv N sg v) : cv ad' v = cv ad v := by
  rcases v with x | x | (_ | x)
  · rfl
  · rfl
  · rfl
  · rcases h with ⟨j, h1, h2⟩ | ⟨_, h⟩
    · show Value.ref _ = Value.ref _
      rw [← h2, hag j h1]
    · show Value.ref _ = Value.ref _
      rw [h, h99]
theorem ce_congr {N : Nat} {dA : Nat → ClassId} {ad ad' : AK → Nat} (hag : ∀ j, j < N → ad' (nm j) = ad (nm j)) {e : AE} (h : okE N e) : ce dA ad' e = ce dA ad e := by
  rcases e with ⟨a, n, f⟩ | ⟨a, n, f⟩ | ⟨a, f⟩
  · rfl
  · have e : (fun j => (f j).map ad') = (fun j => (f j).map ad) := by
      funext j
      cases hj : f j with
      | none => rfl
      | some q =>
        obtain ⟨i, h1, h2⟩ := h.2.2 j q hj
        show some _ = some _
        rw [← h2, hag i h1]
    show Sum.inl (dA a, n, Sum.inr (Sum.inr (Sum.inr (Sum.inr (fun j => (f j).map ad'))))) = _
    rw [e]
    rfl
  · show Sum.inr _ = Sum.inr _
    congr 2
    apply List.map_congr_left
    intro b _
    exact cv_congr hag (h.2 b)
def adU (ad : AK → Nat) (k : AK) (q : Nat) : AK → Nat := fun x => if x = k then q else ad x
theorem adU_old {ad : AK → Nat} {N q : Nat} (hN : N < NTOT) {j : Nat} (hj : j < N) : adU ad (nm N) q (nm j) = ad (nm j) := by
  have : nm j ≠ nm N := fun h => by
    have := nm_inj (Nat.lt_trans hj hN) hN h
    omega
  simp [adU, this]
theorem adU_99 {ad : AK → Nat} {N q : Nat} (hN : N < NTOT) : adU ad (nm N) q (99, 0) = ad (99, 0) := by
  have : (99, 0) ≠ nm N := fun h => nm_99 hN h.symm
  simp [adU, this]
theorem wl_push {dA : Nat → ClassId} {ad : AK → Nat} {mm : AMem} {q S : Nat} (e : AE) (hM : okM mm) (hN : mm.2.1 < NTOT) : wl dA (adU ad (nm mm.2.1) q) (upM mm.1 (nm mm.2.1) e, mm.2.1 + 1, S) = wl dA ad mm ++ [(q, ce dA (adU ad (nm mm.2.1) q) e)] := by
  unfold wl
  dsimp only
  rw [List.range_succ, List.map_append]
  congr 1
  · apply List.map_congr_left
    intro j hj
    have hj := List.mem_range.mp hj
    have hne : nm j ≠ nm mm.2.1 := fun h => by
      have := nm_inj (Nat.lt_trans hj hN) hN h
      omega
    rw [adU_old hN hj]
    have e1 : upM mm.1 (nm mm.2.1) e (nm j) = mm.1 (nm j) := by simp [upM, hne]
    rw [e1, ce_congr (fun i hi => adU_old hN hi) (hM.2 j hj)]
  · simp [adU, upM]
/-! LOCALS -/
def LR (ad : AK → Nat) (nL : Nat) (ls : ALs) (lsc : Array Slot) : Prop := lsc.size = nL ∧ lv_wf lsc ∧ ls.length = nL ∧ ∀ k v, nth ls k none = some v → lsc[k]? = some (.val (cv ad v))
def asc (ad : AK → Nat) (ls : ALs) : List (Nat × Value) := (List.range ls.length).filterMap (fun k => (nth ls k none).map (fun v => (k, cv ad v)))
theorem nth_lt {α : Type} : ∀ {l : List (Option α)} {k : Nat} {v : α}, nth l k none = some v → k < l.length
  | [], _, _, h => by simp [nth] at h
  | _ :: _, 0, _, _ => by simp
  | _ :: t, n + 1, _, h => by
    have := nth_lt (l := t) (k := n) h
    simp; omega
theorem asc_mem {ad : AK → Nat} {ls : ALs} {q : Nat × Value} : q ∈ asc ad ls ↔ ∃ v, nth ls q.1 none = some v ∧ q.2 = cv ad v := by
  unfold asc
  rw [List.mem_filterMap]
  constructor
  · rintro ⟨k, hk, h⟩
    rw [Option.map_eq_some_iff] at h
    obtain ⟨v, h1, h2⟩ := h
    subst h2
    exact ⟨v, h1, rfl⟩
  · rintro ⟨v, h1, h2⟩
    refine ⟨q.1, List.mem_range.mpr (nth_lt h1), ?_⟩
    rw [h1]
    show some (q.1, cv ad v) = some q
    rw [← h2]
theorem LR_has {ad : AK → Nat} {nL : Nat} {ls : ALs} {lsc : Array Slot} (h : LR ad nL ls lsc) : lv_has lsc nL (asc ad ls) := by
  refine ⟨h.1, h.2.1, fun q hq => ?_⟩
  obtain ⟨v, h1, h2⟩ := asc_mem.mp hq
  rw [h2]
  exact h.2.2.2 q.1 v h1
theorem kl_some {o : Option AV} {v : AV} (h : kl o = some v) : o = some v ∧ ∀ ad, (cv ad v).category ≠ 2 := by
  rcases o with _ | x | x | (_ | x)
  · simp [kl] at h
  · simp only [kl] at h
    cases h
    exact ⟨rfl, fun ad => by simp [cv, Value.category]⟩
  · simp [kl] at h
  · simp only [kl] at h
    cases h
    exact ⟨rfl, fun ad => by simp [cv, Value.category]⟩
  · simp only [kl] at h
    cases h
    exact ⟨rfl, fun ad => by simp [cv, Value.category]⟩
theorem setL_spec : ∀ {ls : ALs} {k : Nat} {v : AV} {ls' : ALs}, setL ls k v = some ls' → k < ls.length ∧ ls'.length = ls.length ∧ nth ls' k none = some v ∧ (∀ j, j + 1 = k → nth ls' j none = kl (nth ls j none)) ∧ ∀ j, j ≠ k → j + 1 ≠ k → nth ls' j none = nth ls j none
  | [], k, v, ls', h => by simp [setL] at h
  | o :: t, 0, v, ls', h => by
    simp only [setL] at h
    cases h
    refine ⟨by simp, by simp, rfl, fun j hj => by omega, fun j hj _ => ?_⟩
    cases j with
    | zero => exact absurd rfl hj
    | succ j => rfl
  | [o], k + 1, v, ls', h => by simp [setL] at h
  | o :: o2 :: t, 1, v, ls', h => by
    simp only [setL] at h
    cases h
    refine ⟨by simp, by simp, rfl, fun j hj => ?_, fun j hj hj2 => ?_⟩
    · have : j = 0 := by omega
      subst this; rfl
    · match j, hj, hj2 with
      | 0, _, h2 => exact absurd rfl h2
      | 1, h1, _ => exact absurd rfl h1
      | j + 2, _, _ => rfl
  | o :: o2 :: t, k + 2, v, ls', h => by
    simp only [setL] at h
    split at h
    next t' ht =>
      cases h
      obtain ⟨a, b, c, d, e⟩ := setL_spec ht
      refine ⟨by simp at a ⊢; omega, by simp [b], c, fun j hj => ?_, fun j hj hj2 => ?_⟩
      · match j, hj with
        | j + 1, hj => exact d j (by omega)
        | 0, hj => omega
      · match j, hj, hj2 with
        | 0, _, _ => rfl
        | j + 1, h1, h2 => exact e j (by omega) (by omega)
    next => cases h
theorem setW_spec : ∀ {ls : ALs} {k : Nat} {v : AV} {ls' : ALs}, setW ls k v = some ls' → k + 1 < ls.length ∧ ls'.length = ls.length ∧ nth ls' k none = some v ∧ nth ls' (k + 1) none = none ∧ (∀ j, j + 1 = k → nth ls' j none = kl (nth ls j none)) ∧ ∀ j, j ≠ k → j ≠ k + 1 → j + 1 ≠ k → nth ls' j none = nth ls j none
  | [], k, v, ls', h => by simp [setW] at h
  | [o], 0, v, ls', h => by simp [setW] at h
  | [o], 1, v, ls', h => by simp [setW] at h
  | o :: o2 :: t, 0, v, ls', h => by
    simp only [setW] at h
    cases h
    refine ⟨by simp, by simp, rfl, rfl, fun j hj => by omega, fun j hj hj1 _ => ?_⟩
    match j, hj, hj1 with
    | 0, h, _ => exact absurd rfl h
    | 1, _, h => exact absurd rfl h
    | j + 2, _, _ => rfl
  | [o, o2], 1, v, ls', h => by simp [setW] at h
  | o :: o2 :: o3 :: t, 1, v, ls', h => by
    simp only [setW] at h
    cases h
    refine ⟨by simp, by simp, rfl, rfl, fun j hj => ?_, fun j hj hj1 hj2 => ?_⟩
    · have : j = 0 := by omega
      subst this; rfl
    · match j, hj, hj1, hj2 with
      | 0, _, _, h => exact absurd rfl h
      | 1, h, _, _ => exact absurd rfl h
      | 2, _, h, _ => exact absurd rfl h
      | j + 3, _, _, _ => rfl
  | o :: t, k + 2, v, ls', h => by
    simp only [setW] at h
    split at h
    next t' ht =>
      cases h
      obtain ⟨a, b, c, c2, d, e⟩ := setW_spec ht
      refine ⟨by simp at a ⊢; omega, by simp [b], c, c2, fun j hj => ?_, fun j hj hj1 hj2 => ?_⟩
      · match j, hj with
        | j + 1, hj => exact d j (by omega)
        | 0, hj => omega
      · match j, hj, hj1, hj2 with
        | 0, _, _, _ => rfl
        | j + 1, h1, h2, h3 => exact e j (by omega) (by omega) (by omega)
    next => cases h
theorem LR_set {ad : AK → Nat} {nL k : Nat} {ls ls' : ALs} {lsc lsc' : Array Slot} {v : AV} (h : LR ad nL ls lsc) (hs : setL ls k v = some ls') (hl : lv_has lsc' nL ((k, cv ad v) :: (asc ad ls).filter (fun q => !(q.1 == k) && !(q.1 + 1 == k && q.2.category == 2)))) : LR ad nL ls' lsc' := by
  obtain ⟨s1, s2, s3, s4, s5⟩ := setL_spec hs
  refine ⟨hl.1, hl.2.1, by rw [s2]; exact h.2.2.1, fun j w hw => ?_⟩
  by_cases hj : j = k
  · subst hj
    rw [s3] at hw
    cases hw
    exact hl.2.2 (j, cv ad v) List.mem_cons_self
  · have key : ∀ u, nth ls j none = some u → (cv ad u).category ≠ 2 ∨ j + 1 ≠ k → lsc'[j]? = some (.val (cv ad u)) := by
      intro u hu hc
      refine hl.2.2 (j, cv ad u) (List.mem_cons_of_mem _ (List.mem_filter.mpr ⟨asc_mem.mpr ⟨u, hu, rfl⟩, ?_⟩))
      rcases hc with hc | hc <;> simp [hj, hc]
    by_cases hj2 : j + 1 = k
    · rw [s4 j hj2] at hw
      obtain ⟨h1, h2⟩ := kl_some hw
      exact key w h1 (Or.inl (h2 ad))
    · rw [s5 j hj hj2] at hw
      exact key w hw (Or.inr hj2)
theorem LR_setW {ad : AK → Nat} {nL k : Nat} {ls ls' : ALs} {lsc lsc' : Array Slot} {v : AV} (h : LR ad nL ls lsc) (hs : setW ls k v = some ls') (hl : lv_has lsc' nL ((k, cv ad v) :: (asc ad ls).filter (fun q => !(q.1 == k) && (!(q.1 == k + 1) && !(q.1 + 1 == k && q.2.category == 2))))) : LR ad nL ls' lsc' := by
  obtain ⟨s1, s2, s3, s3b, s4, s5⟩ := setW_spec hs
  refine ⟨hl.1, hl.2.1, by rw [s2]; exact h.2.2.1, fun j w hw => ?_⟩
  by_cases hj : j = k
  · subst hj
    rw [s3] at hw
    cases hw
    exact hl.2.2 (j, cv ad v) List.mem_cons_self
  · by_cases hj1 : j = k + 1
    · rw [hj1, s3b] at hw
      cases hw
    · have key : ∀ u, nth ls j none = some u → (cv ad u).category ≠ 2 ∨ j + 1 ≠ k → lsc'[j]? = some (.val (cv ad u)) := by
        intro u hu hc
        refine hl.2.2 (j, cv ad u) (List.mem_cons_of_mem _ (List.mem_filter.mpr ⟨asc_mem.mpr ⟨u, hu, rfl⟩, ?_⟩))
        rcases hc with hc | hc <;> simp [hj, hj1, hc]
      by_cases hj2 : j + 1 = k
      · rw [s4 j hj2] at hw
        obtain ⟨h1, h2⟩ := kl_some hw
        exact key w h1 (Or.inl (h2 ad))
      · rw [s5 j hj hj1 hj2] at hw
        exact key w hw (Or.inr hj2)
end
section
/-! ONE STEP, one instruction: from the next abstract state's goal to this one's -/
def gw : List Cond := lw_tbl.filter goodWord
def isNest (w : Cond) : Bool := match w with
  | .methodLinkNest _ _ _ _ => true
  | _ => false
def nw : List Cond := lw_tbl.filter isNest
def Cx (p : Program) (s : State) (m : MethodId) (args : Array Value) (meth : Method) (c : Code) (D : va_G) (dA : Nat → ClassId) (A : Nat → Prop) (M : Nat) : Prop :=
  p.tables.exec = Jvm.exec ∧ c.code = (minf M).2.1 ∧ c.maxLocals = (minf M).2.2.1 ∧ s.vm.findClass (minf M).1.cls = some m.cls ∧ (∀ w ∈ gw, w.before args s = true) ∧ va_K D vwCl (tyA dA) s ∧ (∀ q, s.heap.size ≤ q → A q) ∧ meth.name = (minf M).1.name ∧ (va_AO "FerryChange$Ferry" s ∧ va_AO "FerryChange$Row" s) ∧ ∀ w ∈ nw, va_Nw w s
def Scr (s : State) (A : Nat → Prop) (ad : AK → Nat) (mm : AMem) : Prop := ∃ (b L : Nat) (xs : Nat → Int32), va_X b L xs s s.heap ∧ b < s.heap.size ∧ ¬ A b ∧ ad (99, 0) = b ∧ L < 2147483648 ∧ mm.1 (99, 0) = .inl (4, L, fun j => (xs j).toInt)
def Rl (s : State) (D : va_G) (dA : Nat → ClassId) (A : Nat → Prop) (sg : Bool) (nL N0 S0 : Nat) (ad : AK → Nat) (H : Heap) (locs : List Loc) (lsc : Array Slot) (cells slots : Nat) (ls : ALs) (st : List AV) (mm : AMem) : Prop :=
  va_P D vwCl (wl dA ad mm) H ∧ va_D A (wl dA ad mm) ∧ va_S A s.heap H locs ∧ okM mm ∧ LR ad nL ls lsc ∧ (∀ k v, nth ls k none = some v → okv mm.2.1 sg v) ∧ (∀ v ∈ st, okv mm.2.1 sg v) ∧ cells + N0 = mm.2.1 ∧ slots + S0 = mm.2.2 ∧ (sg = true → Scr s A ad mm)
def WG (p : Program) (l : Launch) (e : Env) (R : Room) (s : State) (m : MethodId) (args : Array Value) (below : List Frame) (meth : Method) (c : Code) (Q : State → Prop) (D : va_G) (dA : Nat → ClassId) (A : Nat → Prop) (sg : Bool) (nL N0 S0 : Nat) (ad : AK → Nat) (x : Nat × ALs × List AV × AMem) : Prop :=
  ∀ (H : Heap) (locs : List Loc) (lsc : Array Slot) (cells slots : Nat), Rl s D dA A sg nL N0 S0 ad H locs lsc cells slots x.2.1 x.2.2.1 x.2.2.2 → W p l e R s m args below meth c H locs cells slots Q (F0 m x.1 lsc (x.2.2.1.map (cv ad)))
theorem nx_inj {pc : Nat} {ls : ALs} {st : List AV} {mm : AMem} {nxt : Nat × ALs × List AV × AMem} (h : nx pc ls st mm = some (.inl nxt)) : nxt = (pc, ls, st, mm) := by
  unfold nx at h
  cases h
  rfl
theorem w_at {w : Cond} {pl : Nat} {args : Array Value} {s : State} (hg : ∀ w ∈ gw, w.before args s = true) (h : eqW pl w = true) (hw : goodWord w = true) : w.before args s = true :=
  hg w (List.mem_filter.mpr ⟨List.mem_of_getElem? (of_decide_eq_true h), hw⟩)
section ST
variable {p : Program} {l : Launch} {e : Env} {R : Room} {s : State} {m : MethodId} {args : Array Value} {below : List Frame} {meth : Method} {c : Code} {Q : State → Prop} {D : va_G} {dA : Nat → ClassId} {A : Nat → Prop} {sg : Bool} {nL N0 S0 M : Nat} {ad : AK → Nat} {pc : Nat} {ls : ALs} {st : List AV} {mm : AMem} {nxt : Nat × ALs × List AV × AMem}
/-- another stack over the same memory and locals -/
theorem Rl.stk {H : Heap} {locs : List Loc} {lsc : Array Slot} {cells slots : Nat} {st' : List AV} (h : Rl s D dA A sg nL N0 S0 ad H locs lsc cells slots ls st mm) (hs : ∀ v ∈ st', okv mm.2.1 sg v) : Rl s D dA A sg nL N0 S0 ad H locs lsc cells slots ls st' mm :=
  ⟨h.1, h.2.1, h.2.2.1, h.2.2.2.1, h.2.2.2.2.1, h.2.2.2.2.2.1, hs, h.2.2.2.2.2.2.2⟩
theorem Rl.oks {H : Heap} {locs : List Loc} {lsc : Array Slot} {cells slots : Nat} (h : Rl s D dA A sg nL N0 S0 ad H locs lsc cells slots ls st mm) : ∀ v ∈ st, okv mm.2.1 sg v := h.2.2.2.2.2.2.1
theorem ok_push {N : Nat} {sg : Bool} {v : AV} {r : List AV} (hv : okv N sg v) (h : ∀ v ∈ r, okv N sg v) : ∀ w ∈ v :: r, okv N sg w := fun w hw => (List.mem_cons.mp hw).elim (fun e => e ▸ hv) (h w)
theorem ok_tl {N : Nat} {sg : Bool} {v : AV} {r : List AV} (h : ∀ w ∈ v :: r, okv N sg w) : ∀ w ∈ r, okv N sg w := fun w hw => h w (List.mem_cons_of_mem _ hw)
theorem ok_hd {N : Nat} {sg : Bool} {v : AV} {r : List AV} (h : ∀ w ∈ v :: r, okv N sg w) : okv N sg v := h v List.mem_cons_self
/-- a constant comes on the stack -/
theorem sn_pushI {n : Int} {pc' : Nat} (row : ∀ {H : Heap} {locs : List Loc} {cells slots : Nat} {lsc : Array Slot} {rest : List Value}, W p l e R s m args below meth c H locs cells slots Q (F0 m pc' lsc (.int (Int32.ofInt n) :: rest)) → W p l e R s m args below meth c H locs cells slots Q (F0 m pc lsc rest)) (hn : i32 n)
    (h : nx pc' ls (vi n :: st) mm = some (.inl nxt)) (k : WG p l e R s m args below meth c Q D dA A sg nL N0 S0 ad nxt) : WG p l e R s m args below meth c Q D dA A sg nL N0 S0 ad (pc, ls, st, mm) := by
  cases nx_inj h
  intro H locs lsc cells slots hr
  exact row (k H locs lsc cells slots (hr.stk (ok_push hn hr.oks)))
theorem sn_pushL {n : Int} {pc' : Nat} (row : ∀ {H : Heap} {locs : List Loc} {cells slots : Nat} {lsc : Array Slot} {rest : List Value}, W p l e R s m args below meth c H locs cells slots Q (F0 m pc' lsc (.long (Int64.ofInt n) :: rest)) → W p l e R s m args below meth c H locs cells slots Q (F0 m pc lsc rest)) (hn : i64 n)
    (h : nx pc' ls (vl n :: st) mm = some (.inl nxt)) (k : WG p l e R s m args below meth c Q D dA A sg nL N0 S0 ad nxt) : WG p l e R s m args below meth c Q D dA A sg nL N0 S0 ad (pc, ls, st, mm) := by
  cases nx_inj h
  intro H locs lsc cells slots hr
  exact row (k H locs lsc cells slots (hr.stk (ok_push hn hr.oks)))
/-- loads -/
theorem sn_ldI {i pc' : Nat} (row : ∀ {H : Heap} {locs : List Loc} {cells slots : Nat} {lsc : Array Slot} {rest : List Value} {x : Int32}, lsc[i]? = some (.val (.int x)) → W p l e R s m args below meth c H locs cells slots Q (F0 m pc' lsc (.int x :: rest)) → W p l e R s m args below meth c H locs cells slots Q (F0 m pc lsc rest))
    (h : ldI ls i pc' st mm = some (.inl nxt)) (k : WG p l e R s m args below meth c Q D dA A sg nL N0 S0 ad nxt) : WG p l e R s m args below meth c Q D dA A sg nL N0 S0 ad (pc, ls, st, mm) := by
  unfold ldI at h
  split at h
  next x hx =>
    cases nx_inj h
    intro H locs lsc cells slots hr
    exact row (hr.2.2.2.2.1.2.2.2 i _ hx) (k H locs lsc cells slots (hr.stk (ok_push (hr.2.2.2.2.2.1 i _ hx) hr.oks)))
  next => cases h
theorem sn_ldL {i pc' : Nat} (row : ∀ {H : Heap} {locs : List Loc} {cells slots : Nat} {lsc : Array Slot} {rest : List Value} {x : Int64}, lsc[i]? = some (.val (.long x)) → W p l e R s m args below meth c H locs cells slots Q (F0 m pc' lsc (.long x :: rest)) → W p l e R s m args below meth c H locs cells slots Q (F0 m pc lsc rest))
    (h : ldL ls i pc' st mm = some (.inl nxt)) (k : WG p l e R s m args below meth c Q D dA A sg nL N0 S0 ad nxt) : WG p l e R s m args below meth c Q D dA A sg nL N0 S0 ad (pc, ls, st, mm) := by
  unfold ldL at h
  split at h
  next x hx =>
    cases nx_inj h
    intro H locs lsc cells slots hr
    exact row (hr.2.2.2.2.1.2.2.2 i _ hx) (k H locs lsc cells slots (hr.stk (ok_push (hr.2.2.2.2.2.1 i _ hx) hr.oks)))
  next => cases h
theorem sn_ldA {i pc' : Nat} (row : ∀ {H : Heap} {locs : List Loc} {cells slots : Nat} {lsc : Array Slot} {rest : List Value} {x : Nat}, lsc[i]? = some (.val (.ref x)) → W p l e R s m args below meth c H locs cells slots Q (F0 m pc' lsc (.ref x :: rest)) → W p l e R s m args below meth c H locs cells slots Q (F0 m pc lsc rest))
    (h : ldA ls i pc' st mm = some (.inl nxt)) (k : WG p l e R s m args below meth c Q D dA A sg nL N0 S0 ad nxt) : WG p l e R s m args below meth c Q D dA A sg nL N0 S0 ad (pc, ls, st, mm) := by
  unfold ldA at h
  split at h
  next x hx =>
    cases nx_inj h
    intro H locs lsc cells slots hr
    exact row (hr.2.2.2.2.1.2.2.2 i _ hx) (k H locs lsc cells slots (hr.stk (ok_push (hr.2.2.2.2.2.1 i _ hx) hr.oks)))
  next => cases h
/-- stores -/
theorem okl_set {N : Nat} {ls' : ALs} {i : Nat} {v : AV} (hs : setL ls i v = some ls') (hv : okv N sg v) (h : ∀ k v, nth ls k none = some v → okv N sg v) : ∀ k v, nth ls' k none = some v → okv N sg v := by
  obtain ⟨-, -, s3, s4, s5⟩ := setL_spec hs
  intro j w hw
  by_cases hj : j = i
  · subst hj; rw [s3] at hw; cases hw; exact hv
  · by_cases hj2 : j + 1 = i
    · rw [s4 j hj2] at hw; exact h j w (kl_some hw).1
    · rw [s5 j hj hj2] at hw; exact h j w hw
theorem okl_setW {N : Nat} {ls' : ALs} {i : Nat} {v : AV} (hs : setW ls i v = some ls') (hv : okv N sg v) (h : ∀ k v, nth ls k none = some v → okv N sg v) : ∀ k v, nth ls' k none = some v → okv N sg v := by
  obtain ⟨-, -, s3, s3b, s4, s5⟩ := setW_spec hs
  intro j w hw
  by_cases hj : j = i
  · subst hj; rw [s3] at hw; cases hw; exact hv
  · by_cases hj1 : j = i + 1
    · rw [hj1, s3b] at hw; cases hw
    · by_cases hj2 : j + 1 = i
      · rw [s4 j hj2] at hw; exact h j w (kl_some hw).1
      · rw [s5 j hj hj1 hj2] at hw; exact h j w hw
theorem sn_stI {i pc' : Nat} (row : ∀ {H : Heap} {locs : List Loc} {cells slots : Nat} {lsc : Array Slot} {rest : List Value} {x : Int32} {lv lv' : List (Nat × Value)}, lv_has lsc nL lv → i < nL → (i, Value.int x) :: lv.filter (fun q => !(q.1 == i) && !(q.1 + 1 == i && q.2.category == 2)) = lv' → (∀ ls' : Array Slot, lv_has ls' nL lv' → W p l e R s m args below meth c H locs cells slots Q (F0 m pc' ls' rest)) → W p l e R s m args below meth c H locs cells slots Q (F0 m pc lsc (.int x :: rest)))
    (h : stI ls i pc' st mm = some (.inl nxt)) (k : WG p l e R s m args below meth c Q D dA A sg nL N0 S0 ad nxt) : WG p l e R s m args below meth c Q D dA A sg nL N0 S0 ad (pc, ls, st, mm) := by
  unfold stI at h
  split at h
  next x r =>
    split at h
    next ls' hs =>
      cases nx_inj h
      intro H locs lsc cells slots hr
      have hi := (setL_spec hs).1
      rw [hr.2.2.2.2.1.2.2.1] at hi
      refine row (LR_has hr.2.2.2.2.1) hi rfl (fun lsc' hl => k H locs lsc' cells slots ?_)
      exact ⟨hr.1, hr.2.1, hr.2.2.1, hr.2.2.2.1, LR_set hr.2.2.2.2.1 hs hl, okl_set hs (ok_hd hr.oks) hr.2.2.2.2.2.1, ok_tl hr.oks, hr.2.2.2.2.2.2.2⟩
    next => cases h
  next => cases h
theorem sn_stA {i pc' : Nat} (row : ∀ {H : Heap} {locs : List Loc} {cells slots : Nat} {lsc : Array Slot} {rest : List Value} {x : Nat} {lv lv' : List (Nat × Value)}, lv_has lsc nL lv → i < nL → (i, Value.ref x) :: lv.filter (fun q => !(q.1 == i) && !(q.1 + 1 == i && q.2.category == 2)) = lv' → (∀ ls' : Array Slot, lv_has ls' nL lv' → W p l e R s m args below meth c H locs cells slots Q (F0 m pc' ls' rest)) → W p l e R s m args below meth c H locs cells slots Q (F0 m pc lsc (.ref x :: rest)))
    (h : stA ls i pc' st mm = some (.inl nxt)) (k : WG p l e R s m args below meth c Q D dA A sg nL N0 S0 ad nxt) : WG p l e R s m args below meth c Q D dA A sg nL N0 S0 ad (pc, ls, st, mm) := by
  unfold stA at h
  split at h
  next x r =>
    split at h
    next ls' hs =>
      cases nx_inj h
      intro H locs lsc cells slots hr
      have hi := (setL_spec hs).1
      rw [hr.2.2.2.2.1.2.2.1] at hi
      refine row (LR_has hr.2.2.2.2.1) hi rfl (fun lsc' hl => k H locs lsc' cells slots ?_)
      exact ⟨hr.1, hr.2.1, hr.2.2.1, hr.2.2.2.1, LR_set hr.2.2.2.2.1 hs hl, okl_set hs (ok_hd hr.oks) hr.2.2.2.2.2.1, ok_tl hr.oks, hr.2.2.2.2.2.2.2⟩
    next => cases h
  next => cases h
theorem sn_stL {i pc' : Nat} (row : ∀ {H : Heap} {locs : List Loc} {cells slots : Nat} {lsc : Array Slot} {rest : List Value} {x : Int64} {lv lv' : List (Nat × Value)}, lv_has lsc nL lv → i + 1 < nL → (i, Value.long x) :: lv.filter (fun q => !(q.1 == i) && (!(q.1 == i + 1) && !(q.1 + 1 == i && q.2.category == 2))) = lv' → (∀ ls' : Array Slot, lv_has ls' nL lv' → W p l e R s m args below meth c H locs cells slots Q (F0 m pc' ls' rest)) → W p l e R s m args below meth c H locs cells slots Q (F0 m pc lsc (.long x :: rest)))
    (h : stL ls i pc' st mm = some (.inl nxt)) (k : WG p l e R s m args below meth c Q D dA A sg nL N0 S0 ad nxt) : WG p l e R s m args below meth c Q D dA A sg nL N0 S0 ad (pc, ls, st, mm) := by
  unfold stL at h
  split at h
  next x r =>
    split at h
    next ls' hs =>
      cases nx_inj h
      intro H locs lsc cells slots hr
      have hi := (setW_spec hs).1
      rw [hr.2.2.2.2.1.2.2.1] at hi
      refine row (LR_has hr.2.2.2.2.1) hi rfl (fun lsc' hl => k H locs lsc' cells slots ?_)
      exact ⟨hr.1, hr.2.1, hr.2.2.1, hr.2.2.2.1, LR_setW hr.2.2.2.2.1 hs hl, okl_setW hs (ok_hd hr.oks) hr.2.2.2.2.2.1, ok_tl hr.oks, hr.2.2.2.2.2.2.2⟩
    next => cases h
  next => cases h
theorem sn_iinc (C : Cx p s m args meth c D dA A M) {i : Nat} {n : Int} (hd : decode (minf M).2.1 pc = .ok (.iinc i n, 3)) (h : (match nth ls i none with
    | some (.inl x) => (match setL ls i (vi (w32 (x + n))) with
      | some ls' => nx (pc + 3) ls' st mm
      | none => none)
    | _ => none) = some (.inl nxt)) (hn : i32 n) (k : WG p l e R s m args below meth c Q D dA A sg nL N0 S0 ad nxt) : WG p l e R s m args below meth c Q D dA A sg nL N0 S0 ad (pc, ls, st, mm) := by
  split at h
  next x hx =>
    split at h
    next ls' hs =>
      cases nx_inj h
      intro H locs lsc cells slots hr
      have hi := (setL_spec hs).1
      rw [hr.2.2.2.2.1.2.2.1] at hi
      have hm : ((i, Value.int (Int32.ofInt x)) : Nat × Value) ∈ asc ad ls := asc_mem.mpr ⟨_, hx, rfl⟩
      obtain ⟨k0, hk0⟩ := List.getElem?_of_mem hm
      refine lv_iinc (v := Int32.ofInt (w32 (x + n))) C.1 C.2.1 hd (LR_has hr.2.2.2.2.1) hk0 (o_add (hr.2.2.2.2.2.1 i _ hx) hn) hi rfl (fun lsc' hl => k H locs lsc' cells slots ?_)
      exact ⟨hr.1, hr.2.1, hr.2.2.1, hr.2.2.2.1, LR_set hr.2.2.2.2.1 hs hl, okl_set hs (w32_in _) hr.2.2.2.2.2.1, hr.oks, hr.2.2.2.2.2.2.2⟩
    next => cases h
  next => cases h
/-- two ints to one -/
theorem sn_bnI {f : Int → Int → Int} {g : Int32 → Int32 → Int32} (row : ∀ {H : Heap} {locs : List Loc} {cells slots : Nat} {lsc : Array Slot} {rest : List Value} {x y : Int32}, W p l e R s m args below meth c H locs cells slots Q (F0 m (pc + 1) lsc (.int (g x y) :: rest)) → W p l e R s m args below meth c H locs cells slots Q (F0 m pc lsc (.int y :: .int x :: rest)))
    (hg : ∀ x y, i32 x → i32 y → g (Int32.ofInt x) (Int32.ofInt y) = Int32.ofInt (f x y)) (hf : ∀ x y, i32 x → i32 y → i32 (f x y)) (h : bnI f pc ls st mm = some (.inl nxt)) (k : WG p l e R s m args below meth c Q D dA A sg nL N0 S0 ad nxt) : WG p l e R s m args below meth c Q D dA A sg nL N0 S0 ad (pc, ls, st, mm) := by
  unfold bnI at h
  split at h
  next y x r =>
    cases nx_inj h
    intro H locs lsc cells slots hr
    have hy : i32 y := ok_hd hr.oks
    have hx : i32 x := ok_hd (ok_tl hr.oks)
    refine row (x := Int32.ofInt x) (y := Int32.ofInt y) ?_
    rw [hg x y hx hy]
    exact k H locs lsc cells slots (hr.stk (ok_push (hf x y hx hy) (ok_tl (ok_tl hr.oks))))
  next => cases h
theorem sn_bnD {f : Int → Int → Int} {g : Int32 → Int32 → Int32} (row : ∀ {H : Heap} {locs : List Loc} {cells slots : Nat} {lsc : Array Slot} {rest : List Value} {x y : Int32}, ¬ y = 0 → W p l e R s m args below meth c H locs cells slots Q (F0 m (pc + 1) lsc (.int (g x y) :: rest)) → W p l e R s m args below meth c H locs cells slots Q (F0 m pc lsc (.int y :: .int x :: rest)))
    (hg : ∀ x y, i32 x → i32 y → g (Int32.ofInt x) (Int32.ofInt y) = Int32.ofInt (f x y)) (hf : ∀ x y, i32 x → i32 y → i32 (f x y)) (h : bnD f pc ls st mm = some (.inl nxt)) (k : WG p l e R s m args below meth c Q D dA A sg nL N0 S0 ad nxt) : WG p l e R s m args below meth c Q D dA A sg nL N0 S0 ad (pc, ls, st, mm) := by
  unfold bnD at h
  split at h
  next y x r =>
    split at h
    next => cases h
    next hne =>
      cases nx_inj h
      intro H locs lsc cells slots hr
      have hy : i32 y := ok_hd hr.oks
      have hx : i32 x := ok_hd (ok_tl hr.oks)
      refine row (x := Int32.ofInt x) (y := Int32.ofInt y) (by rw [o_zero, o_eq hy i32_0]; exact hne) ?_
      rw [hg x y hx hy]
      exact k H locs lsc cells slots (hr.stk (ok_push (hf x y hx hy) (ok_tl (ok_tl hr.oks))))
  next => cases h
theorem sn_bnL {f : Int → Int → Int} {g : Int64 → Int64 → Int64} (row : ∀ {H : Heap} {locs : List Loc} {cells slots : Nat} {lsc : Array Slot} {rest : List Value} {x y : Int64}, W p l e R s m args below meth c H locs cells slots Q (F0 m (pc + 1) lsc (.long (g x y) :: rest)) → W p l e R s m args below meth c H locs cells slots Q (F0 m pc lsc (.long y :: .long x :: rest)))
    (hg : ∀ x y, i64 x → i64 y → g (Int64.ofInt x) (Int64.ofInt y) = Int64.ofInt (f x y)) (hf : ∀ x y, i64 x → i64 y → i64 (f x y)) (h : bnL f pc ls st mm = some (.inl nxt)) (k : WG p l e R s m args below meth c Q D dA A sg nL N0 S0 ad nxt) : WG p l e R s m args below meth c Q D dA A sg nL N0 S0 ad (pc, ls, st, mm) := by
  unfold bnL at h
  split at h
  next y x r =>
    cases nx_inj h
    intro H locs lsc cells slots hr
    have hy : i64 y := ok_hd hr.oks
    have hx : i64 x := ok_hd (ok_tl hr.oks)
    refine row (x := Int64.ofInt x) (y := Int64.ofInt y) ?_
    rw [hg x y hx hy]
    exact k H locs lsc cells slots (hr.stk (ok_push (hf x y hx hy) (ok_tl (ok_tl hr.oks))))
  next => cases h
theorem sn_bnM {f : Int → Int → Int} {g : Int64 → Int64 → Int64} (row : ∀ {H : Heap} {locs : List Loc} {cells slots : Nat} {lsc : Array Slot} {rest : List Value} {x y : Int64}, ¬ y = 0 → W p l e R s m args below meth c H locs cells slots Q (F0 m (pc + 1) lsc (.long (g x y) :: rest)) → W p l e R s m args below meth c H locs cells slots Q (F0 m pc lsc (.long y :: .long x :: rest)))
    (hg : ∀ x y, i64 x → i64 y → g (Int64.ofInt x) (Int64.ofInt y) = Int64.ofInt (f x y)) (hf : ∀ x y, i64 x → i64 y → i64 (f x y)) (h : bnM f pc ls st mm = some (.inl nxt)) (k : WG p l e R s m args below meth c Q D dA A sg nL N0 S0 ad nxt) : WG p l e R s m args below meth c Q D dA A sg nL N0 S0 ad (pc, ls, st, mm) := by
  unfold bnM at h
  split at h
  next y x r =>
    split at h
    next => cases h
    next hne =>
      cases nx_inj h
      intro H locs lsc cells slots hr
      have hy : i64 y := ok_hd hr.oks
      have hx : i64 x := ok_hd (ok_tl hr.oks)
      refine row (x := Int64.ofInt x) (y := Int64.ofInt y) (by rw [ol_zero, ol_eq hy i64_0]; exact hne) ?_
      rw [hg x y hx hy]
      exact k H locs lsc cells slots (hr.stk (ok_push (hf x y hx hy) (ok_tl (ok_tl hr.oks))))
  next => cases h
/-- branches -/
theorem jmp_eq {pc : Nat} {off : Int} (h : 0 ≤ (pc : Int) + off) : (pc : Int) + off = ((jmp pc off : Nat) : Int) := by
  unfold jmp
  omega
theorem sn_br2 {off : Int} {cb : Int → Int → Bool} {P : Int32 → Int32 → Prop} (ht : 0 ≤ (pc : Int) + off) (row : ∀ {H : Heap} {locs : List Loc} {cells slots : Nat} {lsc : Array Slot} {rest : List Value} {x y : Int32}, (P x y → W p l e R s m args below meth c H locs cells slots Q (F0 m (jmp pc off) lsc rest)) → (¬ P x y → W p l e R s m args below meth c H locs cells slots Q (F0 m (pc + 3) lsc rest)) → W p l e R s m args below meth c H locs cells slots Q (F0 m pc lsc (.int y :: .int x :: rest)))
    (hP : ∀ x y, i32 x → i32 y → (P (Int32.ofInt x) (Int32.ofInt y) ↔ cb x y = true)) (h : br2 cb pc off ls st mm = some (.inl nxt)) (k : WG p l e R s m args below meth c Q D dA A sg nL N0 S0 ad nxt) : WG p l e R s m args below meth c Q D dA A sg nL N0 S0 ad (pc, ls, st, mm) := by
  unfold br2 at h
  split at h
  next y x r =>
    cases nx_inj h
    intro H locs lsc cells slots hr
    have hy : i32 y := ok_hd hr.oks
    have hx : i32 x := ok_hd (ok_tl hr.oks)
    have k2 := k H locs lsc cells slots (hr.stk (ok_tl (ok_tl hr.oks)))
    refine row (x := Int32.ofInt x) (y := Int32.ofInt y) (fun q => ?_) (fun q => ?_)
    · have q2 := (hP x y hx hy).mp q
      dsimp only at k2
      rw [q2] at k2
      exact k2
    · have q2 : cb x y = false := by
        cases hq : cb x y with
        | false => rfl
        | true => exact absurd ((hP x y hx hy).mpr hq) q
      dsimp only at k2
      rw [q2] at k2
      exact k2
  next => cases h
theorem sn_br1 {off : Int} {cb : Int → Bool} {P : Int32 → Prop} (ht : 0 ≤ (pc : Int) + off) (row : ∀ {H : Heap} {locs : List Loc} {cells slots : Nat} {lsc : Array Slot} {rest : List Value} {x : Int32}, (P x → W p l e R s m args below meth c H locs cells slots Q (F0 m (jmp pc off) lsc rest)) → (¬ P x → W p l e R s m args below meth c H locs cells slots Q (F0 m (pc + 3) lsc rest)) → W p l e R s m args below meth c H locs cells slots Q (F0 m pc lsc (.int x :: rest)))
    (hP : ∀ x, i32 x → (P (Int32.ofInt x) ↔ cb x = true)) (h : br1 cb pc off ls st mm = some (.inl nxt)) (k : WG p l e R s m args below meth c Q D dA A sg nL N0 S0 ad nxt) : WG p l e R s m args below meth c Q D dA A sg nL N0 S0 ad (pc, ls, st, mm) := by
  unfold br1 at h
  split at h
  next x r =>
    cases nx_inj h
    intro H locs lsc cells slots hr
    have hx : i32 x := ok_hd hr.oks
    have k2 := k H locs lsc cells slots (hr.stk (ok_tl hr.oks))
    refine row (x := Int32.ofInt x) (fun q => ?_) (fun q => ?_)
    · have q2 := (hP x hx).mp q
      dsimp only at k2
      rw [q2] at k2
      exact k2
    · have q2 : cb x = false := by
        cases hq : cb x with
        | false => rfl
        | true => exact absurd ((hP x hx).mpr hq) q
      dsimp only at k2
      rw [q2] at k2
      exact k2
  next => cases h
end ST
end
section
/-! STEPS THAT TOUCH THE HEAP -/
theorem vw_at : ∀ {a : Nat}, a < 5 → vwCl[a]? = some (clR a, clT a, clK a)
  | 0, _ => rfl
  | 1, _ => rfl
  | 2, _ => rfl
  | 3, _ => rfl
  | 4, _ => rfl
  | _ + 5, h => absurd h (by omega)
theorem uwB : ((List.range 5).all fun a => (u_ws (clR a) (clT a) (clK a)).all fun w => goodWord w) = true := by decide +kernel
theorem uw_0 : ∀ w ∈ u_ws (clR 0) (clT 0) (clK 0), w ∈ lw_tbl := by decide +kernel
theorem uw_1 : ∀ w ∈ u_ws (clR 1) (clT 1) (clK 1), w ∈ lw_tbl := by decide +kernel
theorem uw_2 : ∀ w ∈ u_ws (clR 2) (clT 2) (clK 2), w ∈ lw_tbl := by decide +kernel
theorem uw_3 : ∀ w ∈ u_ws (clR 3) (clT 3) (clK 3), w ∈ lw_tbl := by decide +kernel
theorem uw_4 : ∀ w ∈ u_ws (clR 4) (clT 4) (clK 4), w ∈ lw_tbl := by decide +kernel
theorem uw_in {a : Nat} (h : a < 5) : ∀ w ∈ u_ws (clR a) (clT a) (clK a), w ∈ gw := by
  intro w hw
  have h1 := List.all_eq_true.mp uwB a (List.mem_range.mpr h)
  have h2 := List.all_eq_true.mp h1 w hw
  refine List.mem_filter.mpr ⟨?_, h2⟩
  match a, h, hw with
  | 0, _, hw => exact uw_0 w hw
  | 1, _, hw => exact uw_1 w hw
  | 2, _, hw => exact uw_2 w hw
  | 3, _, hw => exact uw_3 w hw
  | 4, _, hw => exact uw_4 w hw
theorem cl_ty : ∀ {a : Nat}, a < 5 → ∀ k, k < clK a → parseFieldDescriptor (clT a k).2.2.1 = some (clTy a k)
  | 0, _ => tyX0_ok
  | 1, _ => tyX3_ok
  | 2, _ => tyX4_ok
  | 3, _ => tyX5_ok
  | 4, _ => tyX6_ok
  | _ + 5, h => absurd h (by omega)
theorem cl_nm : ∀ {x : Nat}, x < 5 → ∀ a, a < clK x → ∀ b, b < clK x → a ≠ b → (clT x a).2.1 ≠ (clT x b).2.1
  | 0, _ => nmX0
  | 1, _ => nmX3
  | 2, _ => nmX4
  | 3, _ => nmX5
  | 4, _ => nmX6
  | _ + 5, h => absurd h (by omega)
def tyB (t : FieldType) : Bool := match t with
  | .int => true
  | .long => true
  | .object _ => true
  | .array _ => true
  | _ => false
theorem tyBB : ((List.range 5).all fun a => (List.range (clK a)).all fun b => tyB (clTy a b)) = true := by decide +kernel
theorem fit_ok {a b : Nat} {v : AV} {ad : AK → Nat} (ha : a < 5) (hb : b < clK a) (h : fitF (clF a b) v = true) : narrow (clTy a b) (cv ad v) = cv ad v ∧ fits (clTy a b) (cv ad v) = true := by
  have h1 := List.all_eq_true.mp tyBB a (List.mem_range.mpr ha)
  have h2 := List.all_eq_true.mp h1 b (List.mem_range.mpr hb)
  unfold clF at h
  generalize clTy a b = t at h h2
  rcases v with x | x | (_ | x) <;> cases t <;> first | exact ⟨rfl, rfl⟩ | (simp [fitF, tyB] at h h2; done)
theorem fs_set {c b : Nat} {f : Nat → AV} {v : AV} {ad : AK → Nat} : ((List.range (clK c)).map (fun k => cv ad (f k))).set b (cv ad v) = (List.range (clK c)).map (fun k => cv ad (upF f b v k)) := by
  apply List.ext_getElem?
  intro i
  rw [List.getElem?_set]
  by_cases hi : i < clK c
  · by_cases hib : b = i
    · subst hib
      simp [hi, upF]
    · have : i ≠ b := fun q => hib q.symm
      simp [hi, hib, upF, this]
  · simp [hi]
    omega
theorem okM_upd {mm : AMem} {j : Nat} {k : AK} {e : AE} (h : okM mm) (hj : j < mm.2.1) (hk : nm j = k) (he : okE mm.2.1 e) : okM (upM mm.1 k e, mm.2) := by
  refine ⟨h.1, fun i hi => ?_⟩
  show okE mm.2.1 (upM mm.1 k e (nm i))
  unfold upM
  split
  · exact he
  · exact h.2 i hi
theorem i32_upF {f : Nat → Int} {k : Nat} {x : Int} (h : ∀ j, i32 (f j)) (hx : i32 x) : ∀ j, i32 (upF f k x j) := by
  intro j
  unfold upF
  split
  · exact hx
  · exact h j
theorem upd_upF (f : Nat → Int) (k : Nat) (x : Int) : upd (fun j => Int32.ofInt (f j)) k (Int32.ofInt x) = fun j => Int32.ofInt (upF f k x j) := by
  funext j
  unfold upd upF
  split <;> rfl
theorem cat_le (ad : AK → Nat) : ∀ (r : List AV), ((r.map (cv ad)).map fun v => v.category).sum ≤ 2 * r.length
  | [] => by simp
  | v :: r => by
    have := cat_le ad r
    have h2 : (cv ad v).category ≤ 2 := by rcases v with x | x | (_ | x) <;> simp [cv, Value.category]
    simp only [List.map_cons, List.sum_cons, List.length_cons]
    omega
section HP
variable {p : Program} {l : Launch} {e : Env} {R : Room} {s : State} {m : MethodId} {args : Array Value} {below : List Frame} {meth : Method} {c : Code} {Q : State → Prop} {D : va_G} {dA : Nat → ClassId} {A : Nat → Prop} {sg : Bool} {nL N0 S0 M : Nat} {ad : AK → Nat} {pc : Nat} {ls : ALs} {st : List AV} {mm : AMem} {nxt : Nat × ALs × List AV × AMem}
theorem Rl.key {H : Heap} {locs : List Loc} {lsc : Array Slot} {cells slots : Nat} {k : AK} (h : Rl s D dA A sg nL N0 S0 ad H locs lsc cells slots ls st mm) (hk : okv mm.2.1 sg (.inr (.inr (some k)))) (hn : ∀ L f, mm.1 k ≠ .inl (4, L, f)) : ∃ j, j < mm.2.1 ∧ nm j = k := by
  rcases hk with h1 | ⟨h1, h2⟩
  · exact h1
  · obtain ⟨b, L, xs, -, -, -, -, -, h3⟩ := h.2.2.2.2.2.2.2.2.2 h1
    rw [h2] at hn
    exact absurd h3 (hn _ _)
theorem Rl.cell {H : Heap} {locs : List Loc} {lsc : Array Slot} {cells slots : Nat} (h : Rl s D dA A sg nL N0 S0 ad H locs lsc cells slots ls st mm) {j : Nat} {k : AK} {e0 : AE} (hj : j < mm.2.1) (hk : nm j = k) (he : mm.1 k = e0) : okE mm.2.1 e0 := by
  have := h.2.2.2.1.2 j hj
  rwa [hk, he] at this
/-- a cell of the memory is another one -/
theorem Rl.put {H H1 : Heap} {locs locs1 : List Loc} {lsc : Array Slot} {cells slots : Nat} {j : Nat} {k : AK} {e1 : AE} {st' : List AV} (h : Rl s D dA A sg nL N0 S0 ad H locs lsc cells slots ls st mm) (hj : j < mm.2.1) (hk : nm j = k) (he : okE mm.2.1 e1) (hs : ∀ v ∈ st', okv mm.2.1 sg v)
    (hP : va_P D vwCl ((wl dA ad mm).set j (ad k, ce dA ad e1)) H1) (hD : va_D A ((wl dA ad mm).set j (ad k, ce dA ad e1))) (hS : va_S A s.heap H1 locs1) : Rl s D dA A sg nL N0 S0 ad H1 locs1 lsc cells slots ls st' (upM mm.1 k e1, mm.2) := by
  rw [wl_set e1 h.2.2.2.1.1 hj hk] at hP hD
  refine ⟨hP, hD, hS, okM_upd h.2.2.2.1 hj hk he, h.2.2.2.2.1, h.2.2.2.2.2.1, hs, h.2.2.2.2.2.2.2.1, h.2.2.2.2.2.2.2.2.1, fun hsg => ?_⟩
  obtain ⟨b, L, xs, h1, h2, h3, h4, h5, h6⟩ := h.2.2.2.2.2.2.2.2.2 hsg
  refine ⟨b, L, xs, h1, h2, h3, h4, h5, ?_⟩
  show upM mm.1 k e1 (99, 0) = _
  have hne : (99, 0) ≠ k := fun q => nm_99 (Nat.lt_of_lt_of_le hj h.2.2.2.1.1) (hk.trans q.symm)
  simp [upM, hne, h6]
theorem sn_get (C : Cx p s m args meth c D dA A M) {i a b pl : Nat} (hd : decode (minf M).2.1 pc = .ok (.getfield i, 3)) (ha : a < 5) (hb : b < clK a) (hw : eqW pl (.fieldLink (minf M).1.cls i (clT a b).1 (clT a b).2.1 (clT a b).2.2.1) = true)
    (h : exGet a b pc ls st mm = some (.inl nxt)) (k : WG p l e R s m args below meth c Q D dA A sg nL N0 S0 ad nxt) : WG p l e R s m args below meth c Q D dA A sg nL N0 S0 ad (pc, ls, st, mm) := by
  unfold exGet at h
  split at h
  next k0 r =>
    split at h
    next c0 f hm =>
      cases hbq : Nat.beq c0 a with
      | false => rw [hbq] at h; cases h
      | true =>
        have hca := Nat.eq_of_beq_eq_true hbq
        subst hca
        rw [hbq] at h
        cases nx_inj h
        intro H locs lsc cells slots hr
        obtain ⟨j, hj, hjk⟩ := hr.key (ok_hd hr.oks) (fun L g q => by rw [hm] at q; cases q)
        have hE := hr.cell hj hjk hm
        have hget : (wl dA ad mm)[j]? = some (ad k0, .inr (c0, (List.range (clK c0)).map (fun k => cv ad (f k)))) := wl_get2 hj hjk hm
        refine va_get (v := cv ad (f b)) C.1 C.2.1 C.2.2.2.2.1 (uw_in ha) C.2.2.2.1 C.2.2.2.2.2.1 hr.1 j hget (vw_at ha) b hb (w_at C.2.2.2.2.1 hw rfl) (fun _ h9 => h9) (by simp [hb]) hd ?_
        exact k H locs lsc cells slots (hr.stk (ok_push (okv_true (hE.2 b)) (ok_tl hr.oks)))
    next => cases h
  next => cases h
theorem sn_put (C : Cx p s m args meth c D dA A M) {i a b pl : Nat} (hd : decode (minf M).2.1 pc = .ok (.putfield i, 3)) (ha : a < 5) (hb : b < clK a) (hw : eqW pl (.fieldLink (minf M).1.cls i (clT a b).1 (clT a b).2.1 (clT a b).2.2.1) = true)
    (hfin : (clT a b).2.2.2 = false ∨ ((clT a b).2.2.2 = true ∧ (minf M).1.name = "<init>" ∧ (clT a b).1 = (minf M).1.cls)) (hsg : 1 ≤ M → sg = false)
    (h : exPut M a b pc ls st mm = some (.inl nxt)) (k : WG p l e R s m args below meth c Q D dA A sg nL N0 S0 ad nxt) : WG p l e R s m args below meth c Q D dA A sg nL N0 S0 ad (pc, ls, st, mm) := by
  unfold exPut at h
  split at h
  next v k0 r =>
    split at h
    next c0 f hm =>
      cases hbq : (Nat.beq c0 a && fitF (clF a b) v && Nat.ble 1 M) with
      | false => rw [hbq] at h; cases h
      | true =>
        rw [hbq] at h
        simp only [Bool.and_eq_true] at hbq
        obtain ⟨⟨q1, q2⟩, q3⟩ := hbq
        have hca := Nat.eq_of_beq_eq_true q1
        subst hca
        have hs0 := hsg (Nat.le_of_ble_eq_true q3)
        subst hs0
        cases nx_inj h
        intro H locs lsc cells slots hr
        obtain ⟨j, hj, hjk⟩ := hr.key (ok_hd (ok_tl hr.oks)) (fun L g q => by rw [hm] at q; cases q)
        have hE := hr.cell hj hjk hm
        have hget : (wl dA ad mm)[j]? = some (ad k0, .inr (c0, (List.range (clK c0)).map (fun k => cv ad (f k)))) := wl_get2 hj hjk hm
        obtain ⟨f1, f2⟩ := fit_ok (ad := ad) ha hb q2
        have hE2 : okE mm.2.1 (.inr (.inr (c0, upF f b v))) := by
          refine ⟨hE.1, fun b' => ?_⟩
          unfold upF
          split
          · exact ok_hd hr.oks
          · exact hE.2 b'
        have fin : ∀ (H1 : Heap) (locs1 : List Loc), va_P D vwCl ((wl dA ad mm).set j (ad k0, .inr (c0, ((List.range (clK c0)).map (fun k => cv ad (f k))).set b (cv ad v)))) H1 → va_D A ((wl dA ad mm).set j (ad k0, .inr (c0, ((List.range (clK c0)).map (fun k => cv ad (f k))).set b (cv ad v)))) → va_S A s.heap H1 locs1 → W p l e R s m args below meth c H1 locs1 cells slots Q (F0 m (pc + 3) lsc (r.map (cv ad))) := by
          intro H1 locs1 hP1 hD1 hS1
          rw [fs_set] at hP1 hD1
          exact k H1 locs1 lsc cells slots (hr.put (e1 := .inr (.inr (c0, upF f b v))) hj hjk hE2 (ok_tl (ok_tl hr.oks)) hP1 hD1 hS1)
        rcases hfin with hfin | ⟨g1, g2, g3⟩
        · exact va_put C.1 C.2.1 C.2.2.2.2.1 (uw_in ha) (clTy c0) (cl_ty ha) (cl_nm ha) C.2.2.2.1 C.2.2.2.2.2.1 hr.1 hr.2.1 hr.2.2.1 j hget (vw_at ha) b hb (w_at C.2.2.2.2.1 hw rfl) (fun _ h9 => h9) hfin (cl_ty ha b hb) f1 f2 (by simp [hb]) hd fin
        · exact va_putF C.1 C.2.1 C.2.2.2.2.1 (uw_in ha) (clTy c0) (cl_ty ha) (cl_nm ha) C.2.2.2.1 C.2.2.2.2.2.1 hr.1 hr.2.1 hr.2.2.1 j hget (vw_at ha) b hb (w_at C.2.2.2.2.1 hw rfl) (fun _ h9 => h9) g1 (C.2.2.2.2.2.2.2.1.trans g2) g3 (cl_ty ha b hb) f1 f2 (by simp [hb]) hd fin
    next => cases h
  next => cases h
theorem sn_iald (C : Cx p s m args meth c D dA A M) (hd : decode (minf M).2.1 pc = .ok (.iaload, 1)) (h : exLd pc ls st mm = some (.inl nxt)) (k : WG p l e R s m args below meth c Q D dA A sg nL N0 S0 ad nxt) : WG p l e R s m args below meth c Q D dA A sg nL N0 S0 ad (pc, ls, st, mm) := by
  unfold exLd at h
  split at h
  next i k0 r =>
    split at h
    next kd n f hm =>
      cases hbq : (Nat.beq kd 0 || Nat.beq kd 4) with
      | false => rw [hbq] at h; cases h
      | true =>
        rw [hbq] at h
        dsimp only [cond] at h
        split at h
        next hi =>
          cases nx_inj h
          intro H locs lsc cells slots hr
          have hii : i32 i := ok_hd hr.oks
          by_cases h4 : kd = 4
          · subst h4
            rcases ok_hd (ok_tl hr.oks) with ⟨j, hj, hjk⟩ | ⟨h1, h2⟩
            · have hE := hr.cell hj hjk hm
              exact absurd hE.1 (by decide)
            · obtain ⟨b, L, xs, g1, g2, g3, g4, g5, g6⟩ := hr.2.2.2.2.2.2.2.2.2 h1
              rw [h2, g6] at hm
              cases hm
              have e1 : cv ad (.inr (.inr (some k0))) = .ref b := by rw [h2]; show Value.ref _ = _; rw [g4]
              show W p l e R s m args below meth c H locs cells slots Q (F0 m pc lsc (.int (Int32.ofInt i) :: cv ad (.inr (.inr (some k0))) :: r.map (cv ad)))
              rw [e1]
              refine va_sld C.1 C.2.1 g1 g2 g3 hr.2.2.1 (o_vp hii hi.1 hi.2) hd ?_
              rw [tN hii]
              have e2 : Value.int (xs i.toNat) = cv ad (vi (xs i.toNat).toInt) := by show _ = Value.int (Int32.ofInt _); rw [Int32.ofInt_toInt]
              rw [e2]
              exact k H locs lsc cells slots (hr.stk (ok_push (show i32 _ from i32_of _) (ok_tl (ok_tl hr.oks))))
          · have h0 : kd = 0 := by
              simp only [Bool.or_eq_true] at hbq
              rcases hbq with q | q
              · exact Nat.eq_of_beq_eq_true q
              · exact absurd (Nat.eq_of_beq_eq_true q) h4
            subst h0
            obtain ⟨j, hj, hjk⟩ := hr.key (ok_hd (ok_tl hr.oks)) (fun L g q => by rw [hm] at q; cases q)
            have hE := hr.cell hj hjk hm
            have hget : (wl dA ad mm)[j]? = some (ad k0, .inl (dA 0, n, .inl (fun j => Int32.ofInt (f j)))) := wl_get2 hj hjk hm
            refine va_iald C.1 C.2.1 C.2.2.2.2.2.1 hr.1 j 0 hget rfl (o_vp hii hi.1 hi.2) hd ?_
            rw [tN hii]
            exact k H locs lsc cells slots (hr.stk (ok_push (show i32 _ from hE.2.2 _) (ok_tl (ok_tl hr.oks))))
        next => cases h
    next => cases h
  next => cases h
theorem sn_iast (C : Cx p s m args meth c D dA A M) (hd : decode (minf M).2.1 pc = .ok (.iastore, 1)) (h : exSt pc ls st mm = some (.inl nxt)) (k : WG p l e R s m args below meth c Q D dA A sg nL N0 S0 ad nxt) : WG p l e R s m args below meth c Q D dA A sg nL N0 S0 ad (pc, ls, st, mm) := by
  unfold exSt at h
  split at h
  next x i k0 r =>
    split at h
    next kd n f hm =>
      cases hbq : Nat.beq kd 0 with
      | false => rw [hbq] at h; cases h
      | true =>
        rw [hbq] at h
        have h0 := Nat.eq_of_beq_eq_true hbq
        subst h0
        dsimp only [cond] at h
        split at h
        next hi =>
          cases nx_inj h
          intro H locs lsc cells slots hr
          have hx : i32 x := ok_hd hr.oks
          have hii : i32 i := ok_hd (ok_tl hr.oks)
          obtain ⟨j, hj, hjk⟩ := hr.key (ok_hd (ok_tl (ok_tl hr.oks))) (fun L g q => by rw [hm] at q; cases q)
          have hE := hr.cell hj hjk hm
          have hget : (wl dA ad mm)[j]? = some (ad k0, .inl (dA 0, n, .inl (fun j => Int32.ofInt (f j)))) := wl_get2 hj hjk hm
          refine va_iast C.1 C.2.1 C.2.2.2.2.2.1 hr.1 hr.2.1 hr.2.2.1 j 0 hget rfl (o_vp hii hi.1 hi.2) hd (fun H1 locs1 hP1 hD1 hS1 => ?_)
          rw [tN hii, upd_upF] at hP1 hD1
          exact k H1 locs1 lsc cells slots (hr.put (e1 := .inl (0, n, upF f i.toNat x)) hj hjk ⟨hE.1, hE.2.1, i32_upF hE.2.2 hx⟩ (ok_tl (ok_tl (ok_tl hr.oks))) hP1 hD1 hS1)
        next => cases h
    next => cases h
  next => cases h
theorem sn_zald (C : Cx p s m args meth c D dA A M) (hd : decode (minf M).2.1 pc = .ok (.baload, 1)) (h : exLdZ pc ls st mm = some (.inl nxt)) (k : WG p l e R s m args below meth c Q D dA A sg nL N0 S0 ad nxt) : WG p l e R s m args below meth c Q D dA A sg nL N0 S0 ad (pc, ls, st, mm) := by
  unfold exLdZ at h
  split at h
  next i k0 r =>
    split at h
    next kd n f hm =>
      cases hbq : Nat.beq kd 1 with
      | false => rw [hbq] at h; cases h
      | true =>
        rw [hbq] at h
        have h0 := Nat.eq_of_beq_eq_true hbq
        subst h0
        dsimp only [cond] at h
        split at h
        next hi =>
          cases nx_inj h
          intro H locs lsc cells slots hr
          have hii : i32 i := ok_hd hr.oks
          obtain ⟨j, hj, hjk⟩ := hr.key (ok_hd (ok_tl hr.oks)) (fun L g q => by rw [hm] at q; cases q)
          have hE := hr.cell hj hjk hm
          have hget : (wl dA ad mm)[j]? = some (ad k0, .inl (dA 1, n, .inl (fun j => Int32.ofInt (f j)))) := wl_get2 hj hjk hm
          refine va_zald C.1 C.2.1 C.2.2.2.2.2.1 hr.1 j 1 hget rfl (o_vp hii hi.1 hi.2) hd ?_
          rw [tN hii]
          exact k H locs lsc cells slots (hr.stk (ok_push (show i32 _ from hE.2.2 _) (ok_tl (ok_tl hr.oks))))
        next => cases h
    next => cases h
  next => cases h
theorem nar_bool {x : Int} (h : x = 0 ∨ x = 1) : vp_nar .boolean (Int32.ofInt x) = Int32.ofInt x := by
  rcases h with rfl | rfl <;> decide
theorem sn_zast (C : Cx p s m args meth c D dA A M) (hd : decode (minf M).2.1 pc = .ok (.bastore, 1)) (h : exStZ pc ls st mm = some (.inl nxt)) (k : WG p l e R s m args below meth c Q D dA A sg nL N0 S0 ad nxt) : WG p l e R s m args below meth c Q D dA A sg nL N0 S0 ad (pc, ls, st, mm) := by
  unfold exStZ at h
  split at h
  next x i k0 r =>
    split at h
    next kd n f hm =>
      cases hbq : Nat.beq kd 1 with
      | false => rw [hbq] at h; cases h
      | true =>
        rw [hbq] at h
        have h0 := Nat.eq_of_beq_eq_true hbq
        subst h0
        dsimp only [cond] at h
        split at h
        next hi =>
          cases nx_inj h
          intro H locs lsc cells slots hr
          have hx : i32 x := ok_hd hr.oks
          have hii : i32 i := ok_hd (ok_tl hr.oks)
          obtain ⟨j, hj, hjk⟩ := hr.key (ok_hd (ok_tl (ok_tl hr.oks))) (fun L g q => by rw [hm] at q; cases q)
          have hE := hr.cell hj hjk hm
          have hget : (wl dA ad mm)[j]? = some (ad k0, .inl (dA 1, n, .inl (fun j => Int32.ofInt (f j)))) := wl_get2 hj hjk hm
          refine va_zast C.1 C.2.1 C.2.2.2.2.2.1 hr.1 hr.2.1 hr.2.2.1 j 1 hget rfl (o_vp hii hi.2.1 hi.2.2) hd (fun H1 locs1 hP1 hD1 hS1 => ?_)
          rw [tN hii, nar_bool hi.1, upd_upF] at hP1 hD1
          exact k H1 locs1 lsc cells slots (hr.put (e1 := .inl (1, n, upF f i.toNat x)) hj hjk ⟨hE.1, hE.2.1, i32_upF hE.2.2 hx⟩ (ok_tl (ok_tl (ok_tl hr.oks))) hP1 hD1 hS1)
        next => cases h
    next => cases h
  next => cases h
theorem sn_aald (C : Cx p s m args meth c D dA A M) (hd : decode (minf M).2.1 pc = .ok (.aaload, 1)) (h : exLdA pc ls st mm = some (.inl nxt)) (k : WG p l e R s m args below meth c Q D dA A sg nL N0 S0 ad nxt) : WG p l e R s m args below meth c Q D dA A sg nL N0 S0 ad (pc, ls, st, mm) := by
  unfold exLdA at h
  split at h
  next i k0 r =>
    split at h
    next kd n f hm =>
      split at h
      next hi =>
        split at h
        next q hq =>
          cases nx_inj h
          intro H locs lsc cells slots hr
          have hii : i32 i := ok_hd hr.oks
          obtain ⟨j, hj, hjk⟩ := hr.key (ok_hd (ok_tl hr.oks)) (fun L g q => by rw [hm] at q; cases q)
          have hE := hr.cell hj hjk hm
          have hget : (wl dA ad mm)[j]? = some (ad k0, .inl (dA kd, n, .inr (.inr (.inr (.inr (fun j => (f j).map ad)))))) := wl_get2 hj hjk hm
          have hty : ∃ C0 : String, (tyA dA)[kd]? = some (dA kd, .object C0) := by
            rcases hE.1 with q | q <;> subst q <;> exact ⟨_, rfl⟩
          obtain ⟨C0, hty⟩ := hty
          refine va_aldq C.1 C.2.1 C.2.2.2.2.2.1 hr.1 j kd hget hty (o_vp hii hi.1 hi.2) hd ?_
          rw [tN hii, hq]
          exact k H locs lsc cells slots (hr.stk (ok_push (Or.inl (hE.2.2 _ q hq)) (ok_tl (ok_tl hr.oks))))
        next => cases h
      next => cases h
    next => cases h
  next => cases h
theorem upO_eq (f : Nat → Option AK) (ad : AK → Nat) (i : Nat) (v : AK) : va_up (fun j => (f j).map ad) i (some (ad v)) = fun j => (upF f i (some v) j).map ad := by
  funext j
  unfold va_up upF
  split <;> rfl
theorem sn_aast (C : Cx p s m args meth c D dA A M) (hd : decode (minf M).2.1 pc = .ok (.aastore, 1)) (hsg : 1 ≤ M → sg = false) (h : exStA M pc ls st mm = some (.inl nxt)) (k : WG p l e R s m args below meth c Q D dA A sg nL N0 S0 ad nxt) : WG p l e R s m args below meth c Q D dA A sg nL N0 S0 ad (pc, ls, st, mm) := by
  unfold exStA at h
  split at h
  next v i k0 r =>
    split at h
    next kd n f c0 g0 hm hv =>
      cases hbq : (((Nat.beq kd 2 && Nat.beq c0 0) || (Nat.beq kd 3 && Nat.beq c0 1)) && Nat.ble 1 M) with
      | false => rw [hbq] at h; cases h
      | true =>
        rw [hbq] at h
        simp only [Bool.and_eq_true, Bool.or_eq_true] at hbq
        obtain ⟨q1, q3⟩ := hbq
        have hs0 := hsg (Nat.le_of_ble_eq_true q3)
        subst hs0
        dsimp only [cond] at h
        split at h
        next hi =>
          cases nx_inj h
          intro H locs lsc cells slots hr
          have hii : i32 i := ok_hd (ok_tl hr.oks)
          obtain ⟨j, hj, hjk⟩ := hr.key (ok_hd (ok_tl (ok_tl hr.oks))) (fun L g q => by rw [hm] at q; cases q)
          obtain ⟨j2, hj2, hjk2⟩ := hr.key (ok_hd hr.oks) (fun L g q => by rw [hv] at q; cases q)
          have hE := hr.cell hj hjk hm
          have hget : (wl dA ad mm)[j]? = some (ad k0, .inl (dA kd, n, .inr (.inr (.inr (.inr (fun j => (f j).map ad)))))) := wl_get2 hj hjk hm
          have hget2 : (wl dA ad mm)[j2]? = some (ad v, .inr (c0, (List.range (clK c0)).map (fun k => cv ad (g0 k)))) := wl_get2 hj2 hjk2 hv
          have hty : ∃ r0 : vw_C, vwCl[c0]? = some r0 ∧ (tyA dA)[kd]? = some (dA kd, .object r0.1) := by
            rcases q1 with ⟨a1, a2⟩ | ⟨a1, a2⟩
            · rw [Nat.eq_of_beq_eq_true a1, Nat.eq_of_beq_eq_true a2]; exact ⟨_, rfl, rfl⟩
            · rw [Nat.eq_of_beq_eq_true a1, Nat.eq_of_beq_eq_true a2]; exact ⟨_, rfl, rfl⟩
          obtain ⟨r0, t1, t2⟩ := hty
          refine va_astq C.1 C.2.1 C.2.2.2.2.2.1 hr.1 hr.2.1 hr.2.2.1 j kd j2 c0 hget t2 hget2 t1 (o_vp hii hi.1 hi.2) hd (fun H1 locs1 hP1 hD1 hS1 => ?_)
          rw [tN hii, upO_eq] at hP1 hD1
          refine k H1 locs1 lsc cells slots (hr.put (e1 := .inr (.inl (kd, n, upF f i.toNat (some v)))) hj hjk ⟨hE.1, hE.2.1, fun y q hq => ?_⟩ (ok_tl (ok_tl (ok_tl hr.oks))) hP1 hD1 hS1)
          unfold upF at hq
          split at hq
          · cases hq; exact ⟨j2, hj2, hjk2⟩
          · exact hE.2.2 y q hq
        next => cases h
    next => cases h
  next => cases h
theorem len_eq {n : Nat} (h : n < 2147483648) : Int32.ofNat n = Int32.ofInt (n : Int) := oI (nI_toInt (by omega))
theorem sn_alen (C : Cx p s m args meth c D dA A M) (hd : decode (minf M).2.1 pc = .ok (.arraylength, 1)) (h : exLen pc ls st mm = some (.inl nxt)) (k : WG p l e R s m args below meth c Q D dA A sg nL N0 S0 ad nxt) : WG p l e R s m args below meth c Q D dA A sg nL N0 S0 ad (pc, ls, st, mm) := by
  unfold exLen at h
  split at h
  next k0 r =>
    split at h
    next kd n f hm =>
      cases nx_inj h
      intro H locs lsc cells slots hr
      rcases ok_hd hr.oks with ⟨j, hj, hjk⟩ | ⟨h1, h2⟩
      · have hE := hr.cell hj hjk hm
        have hget : (wl dA ad mm)[j]? = some (ad k0, .inl (dA kd, n, .inl (fun j => Int32.ofInt (f j)))) := wl_get2 hj hjk hm
        have hty : ∃ ty : FieldType, (tyA dA)[kd]? = some (dA kd, ty) := by
          have h2 := hE.1
          match kd, h2 with
          | 0, _ => exact ⟨_, rfl⟩
          | 1, _ => exact ⟨_, rfl⟩
        obtain ⟨ty, hty⟩ := hty
        refine va_alen (v := Int32.ofInt (n : Int)) C.1 C.2.1 C.2.2.2.2.2.1 hr.1 j kd hget hty (len_eq hE.2.1) hd ?_
        exact k H locs lsc cells slots (hr.stk (ok_push (show i32 _ from ⟨by omega, by have := hE.2.1; omega⟩) (ok_tl hr.oks)))
      · obtain ⟨b, L, xs, g1, g2, g3, g4, g5, g6⟩ := hr.2.2.2.2.2.2.2.2.2 h1
        rw [h2, g6] at hm
        cases hm
        have e1 : cv ad (.inr (.inr (some k0))) = .ref b := by rw [h2]; show Value.ref _ = _; rw [g4]
        show W p l e R s m args below meth c H locs cells slots Q (F0 m pc lsc (cv ad (.inr (.inr (some k0))) :: r.map (cv ad)))
        rw [e1]
        refine va_slen C.1 C.2.1 g1 g2 g3 hr.2.2.1 hd ?_
        rw [len_eq g5]
        exact k H locs lsc cells slots (hr.stk (ok_push (show i32 _ from ⟨by omega, by omega⟩) (ok_tl hr.oks)))
    next kd n f hm =>
      cases nx_inj h
      intro H locs lsc cells slots hr
      obtain ⟨j, hj, hjk⟩ := hr.key (ok_hd hr.oks) (fun L g q => by rw [hm] at q; cases q)
      have hE := hr.cell hj hjk hm
      have hget : (wl dA ad mm)[j]? = some (ad k0, .inl (dA kd, n, .inr (.inr (.inr (.inr (fun j => (f j).map ad)))))) := wl_get2 hj hjk hm
      have hty : ∃ ty : FieldType, (tyA dA)[kd]? = some (dA kd, ty) := by
        rcases hE.1 with q | q <;> subst q <;> exact ⟨_, rfl⟩
      obtain ⟨ty, hty⟩ := hty
      refine va_alen (v := Int32.ofInt (n : Int)) C.1 C.2.1 C.2.2.2.2.2.1 hr.1 j kd hget hty (len_eq hE.2.1) hd ?_
      exact k H locs lsc cells slots (hr.stk (ok_push (show i32 _ from ⟨by omega, by have := hE.2.1; omega⟩) (ok_tl hr.oks)))
    next => cases h
  next => cases h
end HP
end
section
/-! STEPS THAT MAKE CELLS, the library's own, what is left -/
theorem insB : ((List.range 5).all fun a => eqW (plIns a).1 (.instantiable (clR a) (clK a)) && eqW (plIns a).2 (.initialized (clR a))) = true := by decide +kernel
theorem objB : (eqW plObj.1 (.instanceMethod objectInit)) = true := by decide +kernel
theorem objC : lw_tbl[plObj.2]? = some (.code objectInit ⟨#[0xb1]⟩ 1 none) := rfl
theorem cpyB : (eqW plCpy.1 (.native arraycopyName) && eqW plCpy.2.1 (.static arraycopyName) && eqW plCpy.2.2 (.initialized "java/lang/System")) = true := by decide +kernel
theorem arrB : (eqW plArr.1 (.arrayClass .int) && eqW plArr.2.1 (.arrayClass .boolean)) = true := by decide +kernel
theorem maxB : (eqW pl_max.1 (.static Lib.Math.max.name) && eqW pl_max.2.1 (.initialized "java/lang/Math") && eqW pl_min.1 (.static Lib.Math.min.name) && eqW pl_min.2.1 (.initialized "java/lang/Math")) = true := by decide +kernel
set_option maxRecDepth 20000 in
theorem maxC : lw_tbl[pl_max.2.2]? = some (.code Lib.Math.max.name Lib.Math.max.code 2 (some .int)) := rfl
set_option maxRecDepth 20000 in
theorem minC : lw_tbl[pl_min.2.2]? = some (.code Lib.Math.min.name Lib.Math.min.code 2 (some .int)) := rfl
theorem w_pl {w : Cond} {pl : Nat} {args : Array Value} {s : State} (hg : ∀ w ∈ gw, w.before args s = true) (h : lw_tbl[pl]? = some w) (hw : goodWord w = true) : w.before args s = true :=
  hg w (List.mem_filter.mpr ⟨List.mem_of_getElem? h, hw⟩)
theorem dfv_cv (a b : Nat) (ad ad' : AK → Nat) : cv ad (dfv a b) = cv ad' (dfv a b) := by
  unfold dfv
  split <;> rfl
theorem dfv_ok (N a b : Nat) : okv N false (dfv a b) := by
  unfold dfv
  split
  · exact i32_0
  · exact i64_0
  · trivial
theorem dfv_val {a b : Nat} (ha : a < 5) (hb : b < clK a) (ad : AK → Nat) : defaultValue (clTy a b) = cv ad (dfv a b) := by
  have h1 := List.all_eq_true.mp tyBB a (List.mem_range.mpr ha)
  have h2 := List.all_eq_true.mp h1 b (List.mem_range.mpr hb)
  unfold dfv clF
  generalize clTy a b = t at h2
  cases t <;> first | rfl | (simp [tyB] at h2; done)
theorem okM_push {mm : AMem} {e : AE} {S : Nat} (h : okM mm) (hN : mm.2.1 < NTOT) (he : okE (mm.2.1 + 1) e) : okM (upM mm.1 (nm mm.2.1) e, mm.2.1 + 1, S) := by
  refine ⟨hN, fun i hi => ?_⟩
  show okE (mm.2.1 + 1) (upM mm.1 (nm mm.2.1) e (nm i))
  unfold upM
  split
  · exact he
  · next hne =>
    have : i < mm.2.1 := by
      have hi2 : i < mm.2.1 + 1 := hi
      rcases Nat.lt_or_ge i mm.2.1 with q | q
      · exact q
      · have : i = mm.2.1 := by omega
        exact absurd (by rw [this]) hne
    exact okE_mono (Nat.le_succ _) (h.2 i this)
section NW
variable {p : Program} {l : Launch} {e : Env} {R : Room} {s : State} {m : MethodId} {args : Array Value} {below : List Frame} {meth : Method} {c : Code} {Q : State → Prop} {D : va_G} {dA : Nat → ClassId} {A : Nat → Prop} {sg : Bool} {nL N0 S0 M : Nat} {ad : AK → Nat} {pc : Nat} {ls : ALs} {st : List AV} {mm : AMem} {nxt : Nat × ALs × List AV × AMem}
/-- a cell is made -/
theorem Rl.push {H H1 : Heap} {locs : List Loc} {lsc : Array Slot} {cells slots : Nat} {q S w : Nat} {e1 : AE} {st' : List AV} (h : Rl s D dA A sg nL N0 S0 ad H locs lsc cells slots ls st mm) (hN : mm.2.1 < NTOT) (he : okE (mm.2.1 + 1) e1) (hs : ∀ v ∈ st', okv (mm.2.1 + 1) sg v) (hS2 : S = mm.2.2 + w)
    (hP : va_P D vwCl (wl dA ad mm ++ [(q, ce dA (adU ad (nm mm.2.1) q) e1)]) H1) (hD : va_D A (wl dA ad mm ++ [(q, ce dA (adU ad (nm mm.2.1) q) e1)])) (hS : va_S A s.heap H1 locs) : Rl s D dA A sg nL N0 S0 (adU ad (nm mm.2.1) q) H1 locs lsc (cells + 1) (slots + w) ls st' (upM mm.1 (nm mm.2.1) e1, mm.2.1 + 1, S) := by
  rw [← wl_push (S := S) e1 h.2.2.2.1 hN] at hP hD
  obtain ⟨-, -, -, hM, hL, okl, -, hc, hsl, hscr⟩ := h
  refine ⟨hP, hD, hS, okM_push hM hN he, ⟨hL.1, hL.2.1, hL.2.2.1, fun k v hv => ?_⟩, fun k v hv => okv_mono (Nat.le_succ _) (okl k v hv), hs, by show cells + 1 + N0 = mm.2.1 + 1; omega, by show slots + w + S0 = S; omega, fun hsg => ?_⟩
  · rw [hL.2.2.2 k v hv]
    rw [cv_congr2 (fun j hj => adU_old hN hj) (adU_99 hN) (okl k v hv)]
  · obtain ⟨b, L, xs, h1, h2, h3, h4, h5, h6⟩ := hscr hsg
    refine ⟨b, L, xs, h1, h2, h3, (adU_99 hN).trans h4, h5, ?_⟩
    show upM mm.1 (nm mm.2.1) e1 (99, 0) = _
    have hne : (99, 0) ≠ nm mm.2.1 := fun q => nm_99 hN q.symm
    simp [upM, hne, h6]
theorem map_cv {N : Nat} {ad' : AK → Nat} {r : List AV} (hag : ∀ j, j < N → ad' (nm j) = ad (nm j)) (h99 : ad' (99, 0) = ad (99, 0)) (h : ∀ v ∈ r, okv N sg v) : r.map (cv ad') = r.map (cv ad) := List.map_congr_left (fun v hv => cv_congr2 hag h99 (h v hv))
theorem sn_new (C : Cx p s m args meth c D dA A M) {i a pl : Nat} (hd : decode (minf M).2.1 pc = .ok (.new i, 3)) (ha : a < 5) (hw : eqW pl (.classLink (minf M).1.cls i (clR a)) = true) (hR : nxt.2.2.2.2.1 ≤ R.cells + N0 ∧ nxt.2.2.2.2.2 ≤ R.slots + S0)
    (h : exNew a pc ls st mm = some (.inl nxt)) (k : ∀ q, WG p l e R s m args below meth c Q D dA A sg nL N0 S0 (adU ad (nm mm.2.1) q) nxt) : WG p l e R s m args below meth c Q D dA A sg nL N0 S0 ad (pc, ls, st, mm) := by
  unfold exNew at h
  cases hbq : (Nat.ble (mm.2.1 + 1) NTOT && Nat.ble a 4) with
  | false => rw [hbq] at h; cases h
  | true =>
    rw [hbq] at h
    simp only [Bool.and_eq_true] at hbq
    have hN : mm.2.1 < NTOT := Nat.le_of_ble_eq_true hbq.1
    cases nx_inj h
    dsimp only at hR
    intro H locs lsc cells slots hr
    have hc : cells + N0 = mm.2.1 := hr.2.2.2.2.2.2.2.1
    have hs : slots + S0 = mm.2.2 := hr.2.2.2.2.2.2.2.2.1
    have h1 := List.all_eq_true.mp insB a (List.mem_range.mpr ha)
    rw [Bool.and_eq_true] at h1
    refine va_new (fs := (List.range (clK a)).map (fun b => cv ad (dfv a b))) C.1 C.2.1 C.2.2.2.2.1 (uw_in ha) (clTy a) (cl_ty ha) C.2.2.2.1 (w_at C.2.2.2.2.1 hw rfl) (w_at C.2.2.2.2.1 h1.1 rfl) (w_at C.2.2.2.2.1 h1.2 rfl) C.2.2.2.2.2.1 hr.1 hr.2.1 hr.2.2.1 C.2.2.2.2.2.2.1 (vw_at ha) (fun b hb => ?_) (by omega) (by omega) hd (fun q H1 hP1 hD1 hS1 => ?_)
    · rw [dfv_val ha hb ad]
      simp [vp_V, hb]
    · have e1 : ce dA (adU ad (nm mm.2.1) q) (.inr (.inr (a, dfv a))) = .inr (a, (List.range (clK a)).map (fun b => cv ad (dfv a b))) := by
        show Sum.inr (a, (List.range (clK a)).map (fun b => cv (adU ad (nm mm.2.1) q) (dfv a b))) = _
        congr 2
        exact List.map_congr_left (fun b _ => dfv_cv a b _ _)
      rw [← e1] at hP1 hD1
      have h2 := k q H1 locs lsc (cells + 1) (slots + clK a) (hr.push (S := mm.2.2 + clK a) hN ⟨ha, fun b => dfv_ok _ a b⟩ (ok_push (Or.inl ⟨mm.2.1, Nat.lt_succ_self _, rfl⟩) (fun v hv => okv_mono (Nat.le_succ _) (hr.oks v hv))) rfl hP1 hD1 hS1)
      dsimp only at h2
      have e2 : (vr (nm mm.2.1).1 (nm mm.2.1).2 :: st).map (cv (adU ad (nm mm.2.1) q)) = Value.ref q :: st.map (cv ad) := by
        rw [List.map_cons, map_cv (fun j hj => adU_old hN hj) (adU_99 hN) hr.oks]
        congr 1
        show Value.ref (adU ad (nm mm.2.1) q (nm mm.2.1)) = _
        simp [adU]
      rw [e2] at h2
      exact h2
theorem sn_newI (C : Cx p s m args meth c D dA A M) {kd : Nat} {at0 : ArrayType} {ty : FieldType} (hd : decode (minf M).2.1 pc = .ok (.newarray at0, 2)) (hty : newarray.typeOf at0 = ty) (hk2 : kd < 2) (hta : (tyA dA)[kd]? = some (dA kd, ty)) (hra : ∀ cA, va_RA s cA ty → va_RA s (dA kd) ty → cA = dA kd) (hwd : (Cond.arrayClass ty).before args s = true) (hdf : defaultValue ty = .int 0) (hcb : componentBytes ty ≤ 4) (hR : nxt.2.2.2.2.1 ≤ R.cells + N0 ∧ nxt.2.2.2.2.2 ≤ R.slots + S0)
    (h : exNewI kd pc ls st mm = some (.inl nxt)) (k : ∀ q, WG p l e R s m args below meth c Q D dA A sg nL N0 S0 (adU ad (nm mm.2.1) q) nxt) : WG p l e R s m args below meth c Q D dA A sg nL N0 S0 ad (pc, ls, st, mm) := by
  unfold exNewI at h
  split at h
  next n r =>
    cases hbq : Nat.ble (mm.2.1 + 1) NTOT with
    | false => rw [hbq] at h; cases h
    | true =>
      rw [hbq] at h
      have hN : mm.2.1 < NTOT := Nat.le_of_ble_eq_true hbq
      dsimp only [cond] at h
      split at h
      next hn =>
        cases nx_inj h
        dsimp only at hR
        intro H locs lsc cells slots hr
        have hc : cells + N0 = mm.2.1 := hr.2.2.2.2.2.2.2.1
        have hs : slots + S0 = mm.2.2 := hr.2.2.2.2.2.2.2.2.1
        have hni : i32 n := ok_hd hr.oks
        have hb4 : n.toNat * componentBytes ty ≤ n.toNat * 4 := Nat.mul_le_mul_left _ hcb
        refine va_newa (N' := n.toNat) (a0 := (n.toNat, .inl (fun _ => Int32.ofInt 0))) C.1 C.2.1 (by rw [hty]; exact hwd) hty C.2.2.2.2.2.1 hr.1 hr.2.1 hr.2.2.1 C.2.2.2.2.2.2.1 (fun cA => ?_) (by rw [o_zero, o_lt hni i32_0]; omega) (tN hni) (by omega) (by omega) (by omega) hd (fun q cA H1 hK1 hP1 hD1 hS1 => ?_)
        · rw [vp_cell_i, hdf]
          rfl
        · have hcA : cA = dA kd := hra cA ((hK1.2 4 (cA, ty) (by simp [tyA])).2) ((C.2.2.2.2.2.1.2 kd _ hta).2)
          subst hcA
          have h2 := k q H1 locs lsc (cells + 1) (slots + n.toNat) (hr.push (e1 := .inl (kd, n.toNat, fun _ => 0)) (S := mm.2.2 + n.toNat) hN ⟨hk2, by omega, fun _ => i32_0⟩ (ok_push (Or.inl ⟨mm.2.1, Nat.lt_succ_self _, rfl⟩) (fun v hv => okv_mono (Nat.le_succ _) (ok_tl hr.oks v hv))) rfl hP1 hD1 hS1)
          dsimp only at h2
          have e2 : (vr (nm mm.2.1).1 (nm mm.2.1).2 :: r).map (cv (adU ad (nm mm.2.1) q)) = Value.ref q :: r.map (cv ad) := by
            rw [List.map_cons, map_cv (fun j hj => adU_old hN hj) (adU_99 hN) (ok_tl hr.oks)]
            congr 1
            show Value.ref (adU ad (nm mm.2.1) q (nm mm.2.1)) = _
            simp [adU]
          rw [e2] at h2
          exact h2
      next => cases h
  next => cases h
theorem sn_newA (C : Cx p s m args meth c D dA A M) {i kd pl : Nat} {C0 : String} (hd : decode (minf M).2.1 pc = .ok (.anewarray i, 3)) (hk2 : kd = 2 ∨ kd = 3) (hta : (tyA dA)[kd]? = some (dA kd, .object C0)) (hw : eqW pl (.classLink (minf M).1.cls i C0) = true) (hov : va_AO C0 s) (hR : nxt.2.2.2.2.1 ≤ R.cells + N0 ∧ nxt.2.2.2.2.2 ≤ R.slots + S0)
    (h : exNewA kd pc ls st mm = some (.inl nxt)) (k : ∀ q, WG p l e R s m args below meth c Q D dA A sg nL N0 S0 (adU ad (nm mm.2.1) q) nxt) : WG p l e R s m args below meth c Q D dA A sg nL N0 S0 ad (pc, ls, st, mm) := by
  unfold exNewA at h
  split at h
  next n r =>
    cases hbq : Nat.ble (mm.2.1 + 1) NTOT with
    | false => rw [hbq] at h; cases h
    | true =>
      rw [hbq] at h
      have hN : mm.2.1 < NTOT := Nat.le_of_ble_eq_true hbq
      dsimp only [cond] at h
      split at h
      next hn =>
        cases nx_inj h
        dsimp only at hR
        intro H locs lsc cells slots hr
        have hc : cells + N0 = mm.2.1 := hr.2.2.2.2.2.2.2.1
        have hs : slots + S0 = mm.2.2 := hr.2.2.2.2.2.2.2.2.1
        have hni : i32 n := ok_hd hr.oks
        refine va_newq (N' := n.toNat) C.1 C.2.1 C.2.2.2.1 (w_at C.2.2.2.2.1 hw rfl) hov C.2.2.2.2.2.1 hr.1 hr.2.1 hr.2.2.1 C.2.2.2.2.2.2.1 (by rw [o_zero, o_lt hni i32_0]; omega) (tN hni) (by omega) (by omega) (by omega) hd (fun q cA H1 hK1 hP1 hD1 hS1 => ?_)
        have hcA : cA = dA kd := by
          obtain ⟨-, -, -, -, -, a4⟩ := (hK1.2 4 (cA, .object C0) (by simp [tyA])).2
          obtain ⟨-, -, -, -, -, b4⟩ := (C.2.2.2.2.2.1.2 kd _ hta).2
          exact Option.some.inj (a4.symm.trans b4)
        subst hcA
        have h2 := k q H1 locs lsc (cells + 1) (slots + n.toNat) (hr.push (e1 := .inr (.inl (kd, n.toNat, fun _ => none))) (S := mm.2.2 + n.toNat) hN ⟨hk2, by omega, fun _ _ h9 => by cases h9⟩ (ok_push (Or.inl ⟨mm.2.1, Nat.lt_succ_self _, rfl⟩) (fun v hv => okv_mono (Nat.le_succ _) (ok_tl hr.oks v hv))) rfl hP1 hD1 hS1)
        dsimp only at h2
        have e2 : (vr (nm mm.2.1).1 (nm mm.2.1).2 :: r).map (cv (adU ad (nm mm.2.1) q)) = Value.ref q :: r.map (cv ad) := by
          rw [List.map_cons, map_cv (fun j hj => adU_old hN hj) (adU_99 hN) (ok_tl hr.oks)]
          congr 1
          show Value.ref (adU ad (nm mm.2.1) q (nm mm.2.1)) = _
          simp [adU]
        rw [e2] at h2
        exact h2
      next => cases h
  next => cases h
theorem cpF_eq (f g : Nat → Int) (sp dp n : Nat) : va_cpy (fun j => Int32.ofInt (f j)) (fun j => Int32.ofInt (g j)) sp dp n = fun j => Int32.ofInt (cpF f g sp dp n j) := by
  funext j
  unfold va_cpy cpF
  split <;> rfl
theorem sn_cpy (C : Cx p s m args meth c D dA A M) {i pl : Nat} (hd : decode (minf M).2.1 pc = .ok (.invokestatic i, 3)) (hnL : c.maxLocals = nL) (hw : eqW pl (.methodLink (minf M).1.cls i arraycopyName) = true) (hR : 1 ≤ R.frames ∧ 100 ≤ R.locals)
    (h : exCpy pc ls st mm = some (.inl nxt)) (k : WG p l e R s m args below meth c Q D dA A sg nL N0 S0 ad nxt) : WG p l e R s m args below meth c Q D dA A sg nL N0 S0 ad (pc, ls, st, mm) := by
  unfold exCpy at h
  split at h
  next n dp k1 sp k0 r =>
    split at h
    next d0 n0 f d1 n1 g hm0 hm1 =>
      cases hbq : (Nat.beq d0 0 && Nat.beq d1 0 && Nat.ble r.length 4) with
      | false => rw [hbq] at h; cases h
      | true =>
        rw [hbq] at h
        simp only [Bool.and_eq_true] at hbq
        obtain ⟨⟨q1, q2⟩, q3⟩ := hbq
        have q1 := Nat.eq_of_beq_eq_true q1
        have q2 := Nat.eq_of_beq_eq_true q2
        have q3 := Nat.le_of_ble_eq_true q3
        subst q1 q2
        dsimp only [cond] at h
        split at h
        next hi =>
          obtain ⟨i1, i2, i3, i4, i5⟩ := hi
          cases nx_inj h
          intro H locs lsc cells slots hr
          have on := ok_hd hr.oks
          have odp := ok_hd (ok_tl hr.oks)
          have ok1 := ok_hd (ok_tl (ok_tl hr.oks))
          have osp := ok_hd (ok_tl (ok_tl (ok_tl hr.oks)))
          have ok0 := ok_hd (ok_tl (ok_tl (ok_tl (ok_tl hr.oks))))
          have okr := ok_tl (ok_tl (ok_tl (ok_tl (ok_tl hr.oks))))
          have on : i32 n := on
          have odp : i32 dp := odp
          have osp : i32 sp := osp
          obtain ⟨j0, hj0, hjk0⟩ := hr.key ok0 (fun L g q => by rw [hm0] at q; cases q)
          obtain ⟨j1, hj1, hjk1⟩ := hr.key ok1 (fun L g q => by rw [hm1] at q; cases q)
          have hE0 := hr.cell hj0 hjk0 hm0
          have hE1 := hr.cell hj1 hjk1 hm1
          have hget0 : (wl dA ad mm)[j0]? = some (ad k0, .inl (dA 0, n0, .inl (fun j => Int32.ofInt (f j)))) := wl_get2 hj0 hjk0 hm0
          have hget1 : (wl dA ad mm)[j1]? = some (ad k1, .inl (dA 0, n1, .inl (fun j => Int32.ofInt (g j)))) := wl_get2 hj1 hjk1 hm1
          have hcb := cpyB
          simp only [Bool.and_eq_true] at hcb
          have hcat := cat_le ad r
          have hnf : nativeFrameWords "java/lang/System" "arraycopy" 5 = 7 := by decide
          refine va_copyi (ty := .int) C.1 C.2.1 (hnL.trans hr.2.2.2.2.1.1.symm) C.2.2.2.1 (w_at C.2.2.2.2.1 hw rfl) (w_at C.2.2.2.2.1 hcb.1.1 rfl) (w_at C.2.2.2.2.1 hcb.1.2 rfl) (w_at C.2.2.2.2.1 hcb.2 rfl) C.2.2.2.2.2.1 hr.1 hr.2.1 hr.2.2.1 j0 j1 0 0 hget0 hget1 rfl rfl rfl (by rw [o_zero, o_lt osp i32_0]; omega) (by rw [o_zero, o_lt odp i32_0]; omega) (by rw [o_zero, o_lt on i32_0]; omega) (by rw [tN osp, tN on]; omega) (by rw [tN odp, tN on]; omega) (fun _ _ => rfl) hR.1 (by rw [hnf]; omega) hd (fun H1 locs1 hP1 hD1 hS1 => ?_)
          rw [tN osp, tN odp, tN on, cpF_eq] at hP1 hD1
          refine k H1 locs1 lsc cells slots (hr.put (e1 := .inl (0, n1, cpF f g sp.toNat dp.toNat n.toNat)) hj1 hjk1 ⟨hE1.1, hE1.2.1, fun j => ?_⟩ okr hP1 hD1 hS1)
          unfold cpF
          split
          · exact hE0.2.2 _
          · exact hE1.2.2 _
        next => cases h
    next => cases h
  next => cases h
theorem sn_obj (C : Cx p s m args meth c D dA A M) {i pl : Nat} (hd : decode (minf M).2.1 pc = .ok (.invokespecial i, 3)) (hnL : c.maxLocals = nL) (hw : eqW pl (.methodLink (minf M).1.cls i objectInit) = true) (hR : 1 ≤ R.frames ∧ 100 ≤ R.locals)
    (h : exObj pc ls st mm = some (.inl nxt)) (k : WG p l e R s m args below meth c Q D dA A sg nL N0 S0 ad nxt) : WG p l e R s m args below meth c Q D dA A sg nL N0 S0 ad (pc, ls, st, mm) := by
  unfold exObj at h
  split at h
  next k0 r =>
    cases hbq : Nat.ble r.length 4 with
    | false => rw [hbq] at h; cases h
    | true =>
      rw [hbq] at h
      have q3 := Nat.le_of_ble_eq_true hbq
      cases nx_inj h
      intro H locs lsc cells slots hr
      have hcat := cat_le ad r
      refine W.objInit C.1 C.2.1 C.2.2.2.1 (w_at C.2.2.2.2.1 hw rfl) (w_at C.2.2.2.2.1 objB rfl) (w_pl C.2.2.2.2.1 objC rfl) rfl (by rw [hnL]; exact hr.2.2.2.2.1.1) rfl hd hR.1 (by show 2 * 0 + _ + 12 ≤ _; omega) ?_
      exact k H locs lsc cells slots (hr.stk (ok_tl hr.oks))
  next => cases h
theorem mx_eq {x y : Int} (h : i32 x) (k : i32 y) : (if Int32.ofInt x < Int32.ofInt y then Int32.ofInt y else Int32.ofInt x) = Int32.ofInt (if x < y then y else x) := by
  by_cases q : x < y
  · rw [if_pos q, if_pos ((o_lt h k).mpr q)]
  · rw [if_neg q, if_neg (fun z => q ((o_lt h k).mp z))]
theorem mn_eq {x y : Int} (h : i32 x) (k : i32 y) : (if Int32.ofInt y < Int32.ofInt x then Int32.ofInt y else Int32.ofInt x) = Int32.ofInt (if y < x then y else x) := by
  by_cases q : y < x
  · rw [if_pos q, if_pos ((o_lt k h).mpr q)]
  · rw [if_neg q, if_neg (fun z => q ((o_lt k h).mp z))]
theorem sn_max (C : Cx p s m args meth c D dA A M) {i pl : Nat} (hd : decode (minf M).2.1 pc = .ok (.invokestatic i, 3)) (hnL : c.maxLocals = nL) (hw : eqW pl (.methodLink (minf M).1.cls i Lib.Math.max.name) = true) (hR : 1 ≤ R.frames ∧ 100 ≤ R.locals) (hRc : mm.2.1 ≤ R.cells + N0 ∧ mm.2.2 ≤ R.slots + S0)
    (h : exMx true pc ls st mm = some (.inl nxt)) (k : WG p l e R s m args below meth c Q D dA A sg nL N0 S0 ad nxt) : WG p l e R s m args below meth c Q D dA A sg nL N0 S0 ad (pc, ls, st, mm) := by
  unfold exMx at h
  split at h
  next y x r =>
    cases hbq : Nat.ble r.length 4 with
    | false => rw [hbq] at h; cases h
    | true =>
      rw [hbq] at h
      have q3 := Nat.le_of_ble_eq_true hbq
      cases nx_inj h
      intro H locs lsc cells slots hr
      have hcat := cat_le ad r
      have hy : i32 y := ok_hd hr.oks
      have hx : i32 x := ok_hd (ok_tl hr.oks)
      have hc : cells + N0 = mm.2.1 := hr.2.2.2.2.2.2.2.1
      have hs : slots + S0 = mm.2.2 := hr.2.2.2.2.2.2.2.2.1
      have hb := maxB
      simp only [Bool.and_eq_true] at hb
      refine va_mmax (x := Int32.ofInt x) (y := Int32.ofInt y) C.1 C.2.1 (hnL.trans hr.2.2.2.2.1.1.symm) C.2.2.2.1 (w_at C.2.2.2.2.1 hw rfl) (w_at C.2.2.2.2.1 hb.1.1.1 rfl) (w_at C.2.2.2.2.1 hb.1.1.2 rfl) (w_pl C.2.2.2.2.1 maxC rfl) hR.1 (by omega) (by omega) (by omega) hd ?_
      rw [mx_eq hx hy]
      refine k H locs lsc cells slots (hr.stk (ok_push (show i32 (if x < y then y else x) from ?_) (ok_tl (ok_tl hr.oks))))
      split
      · exact hy
      · exact hx
  next => cases h
theorem sn_min (C : Cx p s m args meth c D dA A M) {i pl : Nat} (hd : decode (minf M).2.1 pc = .ok (.invokestatic i, 3)) (hnL : c.maxLocals = nL) (hw : eqW pl (.methodLink (minf M).1.cls i Lib.Math.min.name) = true) (hR : 1 ≤ R.frames ∧ 100 ≤ R.locals) (hRc : mm.2.1 ≤ R.cells + N0 ∧ mm.2.2 ≤ R.slots + S0)
    (h : exMx false pc ls st mm = some (.inl nxt)) (k : WG p l e R s m args below meth c Q D dA A sg nL N0 S0 ad nxt) : WG p l e R s m args below meth c Q D dA A sg nL N0 S0 ad (pc, ls, st, mm) := by
  unfold exMx at h
  split at h
  next y x r =>
    cases hbq : Nat.ble r.length 4 with
    | false => rw [hbq] at h; cases h
    | true =>
      rw [hbq] at h
      have q3 := Nat.le_of_ble_eq_true hbq
      cases nx_inj h
      intro H locs lsc cells slots hr
      have hcat := cat_le ad r
      have hy : i32 y := ok_hd hr.oks
      have hx : i32 x := ok_hd (ok_tl hr.oks)
      have hc : cells + N0 = mm.2.1 := hr.2.2.2.2.2.2.2.1
      have hs : slots + S0 = mm.2.2 := hr.2.2.2.2.2.2.2.2.1
      have hb := maxB
      simp only [Bool.and_eq_true] at hb
      refine va_mmin (x := Int32.ofInt x) (y := Int32.ofInt y) C.1 C.2.1 (hnL.trans hr.2.2.2.2.1.1.symm) C.2.2.2.1 (w_at C.2.2.2.2.1 hw rfl) (w_at C.2.2.2.2.1 hb.1.2 rfl) (w_at C.2.2.2.2.1 hb.2 rfl) (w_pl C.2.2.2.2.1 minC rfl) hR.1 (by omega) (by omega) (by omega) hd ?_
      rw [mn_eq hx hy]
      refine k H locs lsc cells slots (hr.stk (ok_push (show i32 (if y < x then y else x) from ?_) (ok_tl (ok_tl hr.oks))))
      split
      · exact hy
      · exact hx
  next => cases h
end NW
end
section
/-! ALL INSTRUCTIONS TOGETHER -/
def lnI (i : Instr) : Nat := match i with
  | .bipush _ => 2
  | .sipush _ => 3
  | .ldc _ => 2
  | .ldc_w _ => 3
  | .ldc2_w _ => 3
  | .iload _ => 2
  | .lload _ => 2
  | .aload _ => 2
  | .istore _ => 2
  | .lstore _ => 2
  | .astore _ => 2
  | .iinc _ _ => 3
  | .if_icmp _ _ => 3
  | .ifCond _ _ => 3
  | .goto _ => 3
  | .getfield _ => 3
  | .putfield _ => 3
  | .new _ => 3
  | .newarray _ => 2
  | .anewarray _ => 3
  | .invokestatic _ => 3
  | .invokevirtual _ => 3
  | .invokespecial _ => 3
  | .tableswitch _ _ _ _ => 0
  | .lookupswitch _ _ => 0
  | _ => 1
def lnOK (o : Option INS) : Bool := match o with
  | none => true
  | some q => Nat.beq (lnI q.1) 0 || Nat.beq q.2.1 (lnI q.1)
theorem ck_len : (tab.all fun g => g.all fun t => t.all fun c => c.all lnOK) = true := by decide +kernel
def incOK (o : Option INS) : Bool := match o with
  | some (.iinc _ n, _) => decide (-32768 ≤ n) && decide (n ≤ 32767)
  | _ => true
theorem ck_inc : (tab.all fun g => g.all fun t => t.all fun c => c.all incOK) = true := by decide +kernel
theorem all_nth {α : Type} {P : α → Bool} : ∀ {l : List α} {k : Nat} {d : α}, l.all P = true → P d = true → P (nth l k d) = true
  | [], k, d, _, h => by rw [nth_nil]; exact h
  | a :: t, 0, d, h, _ => by simp only [List.all_cons, Bool.and_eq_true] at h; exact h.1
  | a :: t, n + 1, d, h, h2 => by simp only [List.all_cons, Bool.and_eq_true] at h; exact all_nth (l := t) h.2 h2
theorem fetch_len {M pc : Nat} {q : INS} (h : fetch M pc = some q) : lnI q.1 = 0 ∨ q.2.1 = lnI q.1 := by
  have q1 : ((nth tab (M / 14) []).all fun t => t.all fun c => c.all lnOK) = true := all_nth (P := fun (g : List (List (List (Option INS)))) => g.all fun t => t.all fun c => c.all lnOK) ck_len rfl
  have q2 : ((nth (nth tab (M / 14) []) (M % 14) []).all fun c => c.all lnOK) = true := all_nth (P := fun (t : List (List (Option INS))) => t.all fun c => c.all lnOK) q1 rfl
  have q3 : ((nth (nth (nth tab (M / 14) []) (M % 14) []) (pc / 16) []).all lnOK) = true := all_nth (P := fun (c : List (Option INS)) => c.all lnOK) q2 rfl
  have h1 : lnOK (fetch M pc) = true := all_nth q3 rfl
  rw [h] at h1
  simp only [lnOK, Bool.or_eq_true] at h1
  exact h1.imp Nat.eq_of_beq_eq_true Nat.eq_of_beq_eq_true
theorem fetch_inc {M pc i len : Nat} {n : Int} {z : Nat × Nat × Int} (h : fetch M pc = some (.iinc i n, len, z)) : i32 n := by
  have q1 : ((nth tab (M / 14) []).all fun t => t.all fun c => c.all incOK) = true := all_nth (P := fun (g : List (List (List (Option INS)))) => g.all fun t => t.all fun c => c.all incOK) ck_inc rfl
  have q2 : ((nth (nth tab (M / 14) []) (M % 14) []).all fun c => c.all incOK) = true := all_nth (P := fun (t : List (List (Option INS))) => t.all fun c => c.all incOK) q1 rfl
  have q3 : ((nth (nth (nth tab (M / 14) []) (M % 14) []) (pc / 16) []).all incOK) = true := all_nth (P := fun (c : List (Option INS)) => c.all incOK) q2 rfl
  have h1 : incOK (fetch M pc) = true := all_nth q3 rfl
  rw [h] at h1
  simp only [incOK, Bool.and_eq_true, decide_eq_true_eq] at h1
  exact ⟨by omega, by omega⟩
theorem exNew_N {a pc : Nat} {ls : ALs} {st : List AV} {mm : AMem} {o : ROut} (h : exNew a pc ls st mm = some o) : mm.2.1 < NTOT := by
  unfold exNew at h
  cases hbq : (Nat.ble (mm.2.1 + 1) NTOT && Nat.ble a 4) with
  | false => rw [hbq] at h; cases h
  | true => simp only [Bool.and_eq_true] at hbq; exact Nat.le_of_ble_eq_true hbq.1
theorem exNewI_N {a pc : Nat} {ls : ALs} {st : List AV} {mm : AMem} {o : ROut} (h : exNewI a pc ls st mm = some o) : mm.2.1 < NTOT := by
  unfold exNewI at h
  split at h
  next =>
    cases hbq : Nat.ble (mm.2.1 + 1) NTOT with
    | false => rw [hbq] at h; cases h
    | true => exact Nat.le_of_ble_eq_true hbq
  next => cases h
theorem exNewA_N {a pc : Nat} {ls : ALs} {st : List AV} {mm : AMem} {o : ROut} (h : exNewA a pc ls st mm = some o) : mm.2.1 < NTOT := by
  unfold exNewA at h
  split at h
  next =>
    cases hbq : Nat.ble (mm.2.1 + 1) NTOT with
    | false => rw [hbq] at h; cases h
    | true => exact Nat.le_of_ble_eq_true hbq
  next => cases h
theorem call_inl {kind M M' pc : Nat} {st : List AV} {mm : AMem} {nxt : Nat × ALs × List AV × AMem} (h : exCall kind M M' pc st mm = some (.inl nxt)) : False := by
  unfold exCall at h
  cases hb : (Nat.ble (minf M').2.2.2.2.1 st.length && Nat.beq (minf M').2.2.2.2.2.1 kind && Nat.ble (st.drop (minf M').2.2.2.2.1).length 4 && (Nat.ble 1 M || (st.take (minf M').2.2.2.2.1).all noScr)
    && (!(Nat.beq kind 1) || recvOk mm (minf M').2.2.2.2.2.2 (st.take (minf M').2.2.2.2.1).getLast?) && Nat.ble (entL (st.take (minf M').2.2.2.2.1).reverse).length (minf M').2.2.1 && (!(Nat.beq kind 2) || isRf (st.take (minf M').2.2.2.2.1).getLast?)) with
  | false => rw [hb] at h; cases h
  | true => rw [hb] at h; cases h
theorem b_in (x y : Int) : i32 (i_and x y) ∧ i32 (i_or x y) ∧ i32 (i_xor x y) ∧ i32 (i_shl x y) ∧ i32 (i_shr x y) ∧ i32 (i_ushr x y) := ⟨i32_of _, i32_of _, i32_of _, i32_of _, i32_of _, i32_of _⟩
theorem lk_off : ∀ {ps : List (Int × Int)} {dflt x : Int} {pc : Nat}, 0 ≤ (pc : Int) + dflt → (ps.all fun o => decide (0 ≤ (pc : Int) + o.2)) = true → 0 ≤ (pc : Int) + Op.lookupswitch.offset ps dflt x
  | [], dflt, x, pc, h, _ => by
    unfold Op.lookupswitch.offset
    exact h
  | (a, b) :: t, dflt, x, pc, h, h2 => by
    simp only [List.all_cons, Bool.and_eq_true] at h2
    unfold Op.lookupswitch.offset
    split
    · exact of_decide_eq_true h2.1
    · exact lk_off h h2.2
section MS
variable {p : Program} {l : Launch} {e : Env} {R : Room} {s : State} {m : MethodId} {args : Array Value} {below : List Frame} {meth : Method} {c : Code} {Q : State → Prop} {D : va_G} {dA : Nat → ClassId} {A : Nat → Prop} {sg : Bool} {nL N0 S0 M : Nat} {ad : AK → Nat} {pc : Nat} {ls : ALs} {st : List AV} {mm : AMem} {nxt : Nat × ALs × List AV × AMem}
theorem sn_ineg (C : Cx p s m args meth c D dA A M) (hd : decode (minf M).2.1 pc = .ok (.ineg, 1)) (h : (match st with
    | .inl x :: r => nx (pc + 1) ls (vi (w32 (-x)) :: r) mm
    | _ => none) = some (.inl nxt)) (k : WG p l e R s m args below meth c Q D dA A sg nL N0 S0 ad nxt) : WG p l e R s m args below meth c Q D dA A sg nL N0 S0 ad (pc, ls, st, mm) := by
  split at h
  next x r =>
    cases nx_inj h
    intro H locs lsc cells slots hr
    have hx : i32 x := ok_hd hr.oks
    refine lv_ineg C.1 C.2.1 hd ?_
    rw [o_neg hx]
    exact k H locs lsc cells slots (hr.stk (ok_push (w32_in _) (ok_tl hr.oks)))
  next => cases h
theorem sn_lcmp (C : Cx p s m args meth c D dA A M) (hd : decode (minf M).2.1 pc = .ok (.lcmp, 1)) (h : (match st with
    | .inr (.inl y) :: .inr (.inl x) :: r => nx (pc + 1) ls (vi (l_cmp x y) :: r) mm
    | _ => none) = some (.inl nxt)) (k : WG p l e R s m args below meth c Q D dA A sg nL N0 S0 ad nxt) : WG p l e R s m args below meth c Q D dA A sg nL N0 S0 ad (pc, ls, st, mm) := by
  split at h
  next y x r =>
    cases nx_inj h
    intro H locs lsc cells slots hr
    have hy : i64 y := ok_hd hr.oks
    have hx : i64 x := ok_hd (ok_tl hr.oks)
    refine W.lcmp C.1 C.2.1 hd ?_
    rw [o_cmp hx hy]
    exact k H locs lsc cells slots (hr.stk (ok_push (l_cmp_in _ _) (ok_tl (ok_tl hr.oks))))
  next => cases h
theorem sn_i2l (C : Cx p s m args meth c D dA A M) (hd : decode (minf M).2.1 pc = .ok (.i2l, 1)) (h : (match st with
    | .inl x :: r => nx (pc + 1) ls (vl x :: r) mm
    | _ => none) = some (.inl nxt)) (k : WG p l e R s m args below meth c Q D dA A sg nL N0 S0 ad nxt) : WG p l e R s m args below meth c Q D dA A sg nL N0 S0 ad (pc, ls, st, mm) := by
  split at h
  next x r =>
    cases nx_inj h
    intro H locs lsc cells slots hr
    have hx : i32 x := ok_hd hr.oks
    exact lv_i2l C.1 C.2.1 hd (o_i2l hx) (k H locs lsc cells slots (hr.stk (ok_push (show i64 x from i32_wide hx) (ok_tl hr.oks))))
  next => cases h
theorem sn_l2i (C : Cx p s m args meth c D dA A M) (hd : decode (minf M).2.1 pc = .ok (.l2i, 1)) (h : (match st with
    | .inr (.inl x) :: r => nx (pc + 1) ls (vi (w32 x) :: r) mm
    | _ => none) = some (.inl nxt)) (k : WG p l e R s m args below meth c Q D dA A sg nL N0 S0 ad nxt) : WG p l e R s m args below meth c Q D dA A sg nL N0 S0 ad (pc, ls, st, mm) := by
  split at h
  next x r =>
    cases nx_inj h
    intro H locs lsc cells slots hr
    have hx : i64 x := ok_hd hr.oks
    exact lv_l2i C.1 C.2.1 hd (o_l2i hx) (k H locs lsc cells slots (hr.stk (ok_push (w32_in _) (ok_tl hr.oks))))
  next => cases h
theorem sn_i2b (C : Cx p s m args meth c D dA A M) (hd : decode (minf M).2.1 pc = .ok (.i2b, 1)) (h : (match st with
    | .inl x :: r => nx (pc + 1) ls (vi (w8 x) :: r) mm
    | _ => none) = some (.inl nxt)) (k : WG p l e R s m args below meth c Q D dA A sg nL N0 S0 ad nxt) : WG p l e R s m args below meth c Q D dA A sg nL N0 S0 ad (pc, ls, st, mm) := by
  split at h
  next x r =>
    cases nx_inj h
    intro H locs lsc cells slots hr
    have hx : i32 x := ok_hd hr.oks
    exact lv_i2b C.1 C.2.1 hd (o_i2b hx) (k H locs lsc cells slots (hr.stk (ok_push (show i32 _ from ⟨by have := (w8_in x).1; omega, by have := (w8_in x).2; omega⟩) (ok_tl hr.oks))))
  next => cases h
theorem sn_dup (C : Cx p s m args meth c D dA A M) (hd : decode (minf M).2.1 pc = .ok (.dup, 1)) (h : (match st with
    | .inl x :: r => nx (pc + 1) ls (vi x :: vi x :: r) mm
    | .inr (.inr (some k)) :: r => nx (pc + 1) ls (vr k.1 k.2 :: vr k.1 k.2 :: r) mm
    | _ => none) = some (.inl nxt)) (k : WG p l e R s m args below meth c Q D dA A sg nL N0 S0 ad nxt) : WG p l e R s m args below meth c Q D dA A sg nL N0 S0 ad (pc, ls, st, mm) := by
  split at h
  next x r =>
    cases nx_inj h
    intro H locs lsc cells slots hr
    exact lv_dup (va := cv ad (vi x)) C.1 C.2.1 hd rfl (k H locs lsc cells slots (hr.stk (ok_push (ok_hd hr.oks) hr.oks)))
  next k0 r =>
    cases nx_inj h
    intro H locs lsc cells slots hr
    exact lv_dup (va := cv ad (vr k0.1 k0.2)) C.1 C.2.1 hd rfl (k H locs lsc cells slots (hr.stk (ok_push (ok_hd hr.oks) hr.oks)))
  next => cases h
theorem sn_dup2 (C : Cx p s m args meth c D dA A M) (hd : decode (minf M).2.1 pc = .ok (.dup2, 1)) (h : (match st with
    | .inl y :: .inr (.inr (some k)) :: r => nx (pc + 1) ls (vi y :: vr k.1 k.2 :: vi y :: vr k.1 k.2 :: r) mm
    | _ => none) = some (.inl nxt)) (k : WG p l e R s m args below meth c Q D dA A sg nL N0 S0 ad nxt) : WG p l e R s m args below meth c Q D dA A sg nL N0 S0 ad (pc, ls, st, mm) := by
  split at h
  next y k0 r =>
    cases nx_inj h
    intro H locs lsc cells slots hr
    exact lv_dup2_11 (va := cv ad (vi y)) (vb := cv ad (vr k0.1 k0.2)) C.1 C.2.1 hd rfl rfl (k H locs lsc cells slots (hr.stk (ok_push (ok_hd hr.oks) (ok_push (ok_hd (ok_tl hr.oks)) hr.oks))))
  next => cases h
theorem sn_pop (C : Cx p s m args meth c D dA A M) (hd : decode (minf M).2.1 pc = .ok (.pop, 1)) (h : (match st with
    | .inl _ :: r => nx (pc + 1) ls r mm
    | _ => none) = some (.inl nxt)) (k : WG p l e R s m args below meth c Q D dA A sg nL N0 S0 ad nxt) : WG p l e R s m args below meth c Q D dA A sg nL N0 S0 ad (pc, ls, st, mm) := by
  split at h
  next x r =>
    cases nx_inj h
    intro H locs lsc cells slots hr
    exact lv_pop (va := cv ad (vi x)) C.1 C.2.1 hd rfl (k H locs lsc cells slots (hr.stk (ok_tl hr.oks)))
  next => cases h
theorem sn_goto (C : Cx p s m args meth c D dA A M) {off : Int} (hd : decode (minf M).2.1 pc = .ok (.goto off, 3)) (ht : 0 ≤ (pc : Int) + off) (h : nx (jmp pc off) ls st mm = some (.inl nxt)) (k : WG p l e R s m args below meth c Q D dA A sg nL N0 S0 ad nxt) : WG p l e R s m args below meth c Q D dA A sg nL N0 S0 ad (pc, ls, st, mm) := by
  cases nx_inj h
  intro H locs lsc cells slots hr
  exact lv_goto C.1 C.2.1 hd (jmp_eq ht) (k H locs lsc cells slots hr)
theorem nth_get {α : Type} : ∀ {l : List α} {k : Nat} {d : α}, k < l.length → l[k]? = some (nth l k d)
  | [], k, d, h => by simp at h
  | a :: t, 0, d, _ => rfl
  | a :: t, n + 1, d, h => by
    simp only [List.length_cons] at h
    rw [List.getElem?_cons_succ]
    exact nth_get (by omega)
theorem sn_table (C : Cx p s m args meth c D dA A M) {dflt lo hi : Int} {offs : Array Int} {len : Nat} (hd : decode (minf M).2.1 pc = .ok (.tableswitch dflt lo hi offs, len)) (h1 : 0 ≤ (pc : Int) + dflt) (h2 : (offs.toList.all fun o => decide (0 ≤ (pc : Int) + o)) = true) (h3 : hi - lo + 1 = (offs.toList.length : Int))
    (h : (match st with
    | .inl x :: r => nx (jmp pc (if x < lo ∨ hi < x then dflt else nth offs.toList (x - lo).toNat 0)) ls r mm
    | _ => none) = some (.inl nxt)) (k : WG p l e R s m args below meth c Q D dA A sg nL N0 S0 ad nxt) : WG p l e R s m args below meth c Q D dA A sg nL N0 S0 ad (pc, ls, st, mm) := by
  split at h
  next x r =>
    cases nx_inj h
    intro H locs lsc cells slots hr
    have hx : i32 x := ok_hd hr.oks
    have k2 := k H locs lsc cells slots (hr.stk (ok_tl hr.oks))
    dsimp only at k2
    by_cases hc : x < lo ∨ hi < x
    · rw [if_pos hc] at k2
      exact lv_tableOut C.1 C.2.1 hd (by rw [tI hx]; exact hc) (jmp_eq h1) k2
    · rw [if_neg hc] at k2
      have hl : (x - lo).toNat < offs.toList.length := by omega
      have hg := nth_get (d := 0) hl
      have ho : 0 ≤ (pc : Int) + nth offs.toList (x - lo).toNat 0 := of_decide_eq_true (List.all_eq_true.mp h2 _ (List.mem_of_getElem? hg))
      refine lv_tableIn (off := nth offs.toList (x - lo).toNat 0) C.1 C.2.1 hd (by rw [tI hx]; omega) (by rw [tI hx]; omega) ?_ (jmp_eq ho) k2
      rw [tI hx, ← hg]
      simp
  next => cases h
theorem sn_lookup (C : Cx p s m args meth c D dA A M) {dflt : Int} {ps : Array (Int × Int)} {len : Nat} (hd : decode (minf M).2.1 pc = .ok (.lookupswitch dflt ps, len)) (h1 : 0 ≤ (pc : Int) + dflt) (h2 : (ps.toList.all fun o => decide (0 ≤ (pc : Int) + o.2)) = true) (h3 : (ps.toList.zip (ps.toList.drop 1)).all (fun (a, next) => a.1 < next.1) = true)
    (h : (match st with
    | .inl x :: r => nx (jmp pc (Op.lookupswitch.offset ps.toList dflt x)) ls r mm
    | _ => none) = some (.inl nxt)) (k : WG p l e R s m args below meth c Q D dA A sg nL N0 S0 ad nxt) : WG p l e R s m args below meth c Q D dA A sg nL N0 S0 ad (pc, ls, st, mm) := by
  split at h
  next x r =>
    cases nx_inj h
    intro H locs lsc cells slots hr
    have hx : i32 x := ok_hd hr.oks
    exact lv_lookup C.1 C.2.1 hd h3 (by rw [tI hx]) (jmp_eq (lk_off h1 h2)) (k H locs lsc cells slots (hr.stk (ok_tl hr.oks)))
  next => cases h
end MS
end
section
/-! A STEP, whatever its instruction -/
theorem ra_int {s : State} {ty : FieldType} {cA cB : ClassId} (h : ty = .int ∨ ty = .boolean) (h1 : va_RA s cA ty) (h2 : va_RA s cB ty) : cA = cB := by
  rcases h with rfl | rfl
  · exact Option.some.inj ((show s.vm.findClass _ = some cA from h1).symm.trans (show s.vm.findClass _ = some cB from h2))
  · exact Option.some.inj ((show s.vm.findClass _ = some cA from h1).symm.trans (show s.vm.findClass _ = some cB from h2))
section DP
variable {p : Program} {l : Launch} {e : Env} {R : Room} {s : State} {m : MethodId} {args : Array Value} {below : List Frame} {meth : Method} {c : Code} {Q : State → Prop} {D : va_G} {dA : Nat → ClassId} {A : Nat → Prop} {sg : Bool} {nL N0 S0 M : Nat} {ad : AK → Nat} {pc : Nat} {ls : ALs} {st : List AV} {mm : AMem} {nxt : Nat × ALs × List AV × AMem}
set_option maxHeartbeats 4000000 in
theorem step_ok (C : Cx p s m args meth c D dA A M) {q : INS} (hf : fetch M pc = some q) (hnL : c.maxLocals = nL) (hsg : 1 ≤ M → sg = false) (hR : 1 ≤ R.frames ∧ 100 ≤ R.locals) (hR0 : mm.2.1 ≤ R.cells + N0 ∧ mm.2.2 ≤ R.slots + S0) (hR1 : nxt.2.2.2.2.1 ≤ R.cells + N0 ∧ nxt.2.2.2.2.2 ≤ R.slots + S0)
    (h : ex M pc ls st mm q = some (.inl nxt)) (k : ∀ ad' : AK → Nat, (∀ j, j < mm.2.1 → ad' (nm j) = ad (nm j)) → ad' (99, 0) = ad (99, 0) → WG p l e R s m args below meth c Q D dA A sg nL N0 S0 ad' nxt) : WG p l e R s m args below meth c Q D dA A sg nL N0 S0 ad (pc, ls, st, mm) := by
  have kk : WG p l e R s m args below meth c Q D dA A sg nL N0 S0 ad nxt := k ad (fun _ _ => rfl) rfl
  obtain ⟨hd, hc⟩ := fetch_ok hf
  have hln := fetch_len hf
  obtain ⟨ins, len, a, b, z⟩ := q
  dsimp only at hd hln
  cases ins with
  | iconst n =>
    replace hln : len = 1 := hln.resolve_left (show ¬ (1 : Nat) = 0 by decide)
    subst hln
    simp only [chkA, Bool.and_eq_true, decide_eq_true_eq] at hc
    exact sn_pushI (lv_iconst C.1 C.2.1 hd rfl) ⟨by omega, by omega⟩ h kk
  | bipush n =>
    replace hln : len = 2 := hln.resolve_left (show ¬ (2 : Nat) = 0 by decide)
    subst hln
    simp only [chkA, Bool.and_eq_true, decide_eq_true_eq] at hc
    exact sn_pushI (lv_bipush C.1 C.2.1 hd (o_bi hc.1 hc.2)) ⟨by omega, by omega⟩ h kk
  | sipush n =>
    replace hln : len = 3 := hln.resolve_left (show ¬ (3 : Nat) = 0 by decide)
    subst hln
    simp only [chkA, Bool.and_eq_true, decide_eq_true_eq] at hc
    exact sn_pushI (lv_sipush C.1 C.2.1 hd (o_si hc.1 hc.2)) ⟨by omega, by omega⟩ h kk
  | lconst n =>
    replace hln : len = 1 := hln.resolve_left (show ¬ (1 : Nat) = 0 by decide)
    subst hln
    have hn : i64 (n.val : Int) := ⟨by omega, by have := n.isLt; omega⟩
    refine sn_pushL (lv_lconst C.1 C.2.1 hd ?_) hn h kk
    have h2 := n.isLt
    apply oL
    rw [Int64.toInt_ofNat_of_lt (by omega)]
  | ldc i =>
    replace hln : len = 2 := hln.resolve_left (show ¬ (2 : Nat) = 0 by decide)
    subst hln
    simp only [chkA, Bool.and_eq_true, decide_eq_true_eq] at hc
    exact sn_pushI (lv_ldc C.1 C.2.1 C.2.2.2.1 (w_at C.2.2.2.2.1 hc.1.1 rfl) hd) ⟨hc.1.2, hc.2⟩ h kk
  | ldc_w i =>
    replace hln : len = 3 := hln.resolve_left (show ¬ (3 : Nat) = 0 by decide)
    subst hln
    simp only [chkA, Bool.and_eq_true, decide_eq_true_eq] at hc
    exact sn_pushI (lv_ldcw C.1 C.2.1 C.2.2.2.1 (w_at C.2.2.2.2.1 hc.1.1 rfl) hd) ⟨hc.1.2, hc.2⟩ h kk
  | ldc2_w i =>
    replace hln : len = 3 := hln.resolve_left (show ¬ (3 : Nat) = 0 by decide)
    subst hln
    simp only [chkA, Bool.and_eq_true, decide_eq_true_eq] at hc
    exact sn_pushL (lv_ldc2 C.1 C.2.1 C.2.2.2.1 (w_at C.2.2.2.2.1 hc.1.1 rfl) hd) ⟨hc.1.2, hc.2⟩ h kk
  | iload i =>
    replace hln : len = 2 := hln.resolve_left (show ¬ (2 : Nat) = 0 by decide)
    subst hln
    exact sn_ldI (fun hl => lv_iload C.1 C.2.1 hd hl) h kk
  | iload_n i =>
    replace hln : len = 1 := hln.resolve_left (show ¬ (1 : Nat) = 0 by decide)
    subst hln
    exact sn_ldI (fun hl => lv_iload_n C.1 C.2.1 hd rfl hl) h kk
  | lload i =>
    replace hln : len = 2 := hln.resolve_left (show ¬ (2 : Nat) = 0 by decide)
    subst hln
    exact sn_ldL (fun hl => lv_lload C.1 C.2.1 hd hl) h kk
  | lload_n i =>
    replace hln : len = 1 := hln.resolve_left (show ¬ (1 : Nat) = 0 by decide)
    subst hln
    exact sn_ldL (fun hl => lv_lload_n C.1 C.2.1 hd rfl hl) h kk
  | aload i =>
    replace hln : len = 2 := hln.resolve_left (show ¬ (2 : Nat) = 0 by decide)
    subst hln
    exact sn_ldA (fun hl => lv_aload C.1 C.2.1 hd hl) h kk
  | aload_n i =>
    replace hln : len = 1 := hln.resolve_left (show ¬ (1 : Nat) = 0 by decide)
    subst hln
    exact sn_ldA (fun hl => lv_aload_n C.1 C.2.1 hd rfl hl) h kk
  | istore i =>
    replace hln : len = 2 := hln.resolve_left (show ¬ (2 : Nat) = 0 by decide)
    subst hln
    exact sn_stI (fun h1 h2 h3 h4 => lv_istore C.1 C.2.1 hd h1 h2 h3 h4) h kk
  | istore_n i =>
    replace hln : len = 1 := hln.resolve_left (show ¬ (1 : Nat) = 0 by decide)
    subst hln
    exact sn_stI (fun h1 h2 h3 h4 => lv_istore_n C.1 C.2.1 hd rfl h1 h2 h3 h4) h kk
  | lstore i =>
    replace hln : len = 2 := hln.resolve_left (show ¬ (2 : Nat) = 0 by decide)
    subst hln
    exact sn_stL (fun h1 h2 h3 h4 => lv_lstore C.1 C.2.1 hd h1 h2 h3 h4) h kk
  | lstore_n i =>
    replace hln : len = 1 := hln.resolve_left (show ¬ (1 : Nat) = 0 by decide)
    subst hln
    exact sn_stL (fun h1 h2 h3 h4 => lv_lstore_n C.1 C.2.1 hd rfl h1 h2 h3 h4) h kk
  | astore i =>
    replace hln : len = 2 := hln.resolve_left (show ¬ (2 : Nat) = 0 by decide)
    subst hln
    exact sn_stA (fun h1 h2 h3 h4 => lv_astore C.1 C.2.1 hd h1 h2 h3 h4) h kk
  | astore_n i =>
    replace hln : len = 1 := hln.resolve_left (show ¬ (1 : Nat) = 0 by decide)
    subst hln
    exact sn_stA (fun h1 h2 h3 h4 => lv_astore_n C.1 C.2.1 hd rfl h1 h2 h3 h4) h kk
  | iinc i n =>
    replace hln : len = 3 := hln.resolve_left (show ¬ (3 : Nat) = 0 by decide)
    subst hln
    have hn : i32 n := fetch_inc hf
    exact sn_iinc C hd h hn kk
  | iadd =>
    replace hln : len = 1 := hln.resolve_left (show ¬ (1 : Nat) = 0 by decide)
    subst hln
    exact sn_bnI (g := fun x y => x + y) (lv_iadd C.1 C.2.1 hd) (fun x y h k => o_add h k) (fun _ _ _ _ => w32_in _) h kk
  | isub =>
    replace hln : len = 1 := hln.resolve_left (show ¬ (1 : Nat) = 0 by decide)
    subst hln
    exact sn_bnI (g := fun x y => x - y) (lv_isub C.1 C.2.1 hd) (fun x y h k => o_sub h k) (fun _ _ _ _ => w32_in _) h kk
  | imul =>
    replace hln : len = 1 := hln.resolve_left (show ¬ (1 : Nat) = 0 by decide)
    subst hln
    exact sn_bnI (g := fun x y => x * y) (lv_imul C.1 C.2.1 hd) (fun x y h k => o_mul h k) (fun _ _ _ _ => w32_in _) h kk
  | iand =>
    replace hln : len = 1 := hln.resolve_left (show ¬ (1 : Nat) = 0 by decide)
    subst hln
    exact sn_bnI (g := fun x y => x &&& y) (lv_iand C.1 C.2.1 hd) (fun x y _ _ => oI rfl) (fun x y _ _ => (b_in x y).1) h kk
  | ior =>
    replace hln : len = 1 := hln.resolve_left (show ¬ (1 : Nat) = 0 by decide)
    subst hln
    exact sn_bnI (g := fun x y => x ||| y) (lv_ior C.1 C.2.1 hd) (fun x y _ _ => oI rfl) (fun x y _ _ => (b_in x y).2.1) h kk
  | ixor =>
    replace hln : len = 1 := hln.resolve_left (show ¬ (1 : Nat) = 0 by decide)
    subst hln
    exact sn_bnI (g := fun x y => x ^^^ y) (lv_ixor C.1 C.2.1 hd) (fun x y _ _ => oI rfl) (fun x y _ _ => (b_in x y).2.2.1) h kk
  | ishl =>
    replace hln : len = 1 := hln.resolve_left (show ¬ (1 : Nat) = 0 by decide)
    subst hln
    exact sn_bnI (g := fun x y => x <<< (y &&& 31)) (lv_ishl C.1 C.2.1 hd) (fun x y _ _ => oI rfl) (fun x y _ _ => (b_in x y).2.2.2.1) h kk
  | ishr =>
    replace hln : len = 1 := hln.resolve_left (show ¬ (1 : Nat) = 0 by decide)
    subst hln
    exact sn_bnI (g := fun x y => x >>> (y &&& 31)) (lv_ishr C.1 C.2.1 hd) (fun x y _ _ => oI rfl) (fun x y _ _ => (b_in x y).2.2.2.2.1) h kk
  | iushr =>
    replace hln : len = 1 := hln.resolve_left (show ¬ (1 : Nat) = 0 by decide)
    subst hln
    exact sn_bnI (g := fun x y => (x.toUInt32 >>> (y.toUInt32 &&& Int32.toUInt32 31)).toInt32) (lv_iushr C.1 C.2.1 hd rfl) (fun x y _ _ => oI rfl) (fun x y _ _ => (b_in x y).2.2.2.2.2) h kk
  | idiv =>
    replace hln : len = 1 := hln.resolve_left (show ¬ (1 : Nat) = 0 by decide)
    subst hln
    exact sn_bnD (g := fun x y => x / y) (fun hne => lv_idiv C.1 C.2.1 hd hne) (fun x y h k => o_div h k) (fun _ _ _ _ => w32_in _) h kk
  | irem =>
    replace hln : len = 1 := hln.resolve_left (show ¬ (1 : Nat) = 0 by decide)
    subst hln
    exact sn_bnD (g := fun x y => x - x / y * y) (fun hne => lv_irem C.1 C.2.1 hd hne) (fun x y h k => o_rem h k) (fun _ _ h _ => tmod_in h) h kk
  | ineg =>
    replace hln : len = 1 := hln.resolve_left (show ¬ (1 : Nat) = 0 by decide)
    subst hln
    exact sn_ineg C hd h kk
  | ladd =>
    replace hln : len = 1 := hln.resolve_left (show ¬ (1 : Nat) = 0 by decide)
    subst hln
    exact sn_bnL (g := fun x y => x + y) (lv_ladd C.1 C.2.1 hd) (fun x y h k => ol_add h k) (fun _ _ _ _ => w64_in _) h kk
  | lmul =>
    replace hln : len = 1 := hln.resolve_left (show ¬ (1 : Nat) = 0 by decide)
    subst hln
    exact sn_bnL (g := fun x y => x * y) (lv_lmul C.1 C.2.1 hd) (fun x y h k => ol_mul h k) (fun _ _ _ _ => w64_in _) h kk
  | ldiv =>
    replace hln : len = 1 := hln.resolve_left (show ¬ (1 : Nat) = 0 by decide)
    subst hln
    exact sn_bnM (g := fun x y => x / y) (fun hne => lv_ldiv C.1 C.2.1 hd hne) (fun x y h k => ol_div h k) (fun _ _ _ _ => w64_in _) h kk
  | lrem =>
    replace hln : len = 1 := hln.resolve_left (show ¬ (1 : Nat) = 0 by decide)
    subst hln
    exact sn_bnM (g := fun x y => x - x / y * y) (fun hne => lv_lrem C.1 C.2.1 hd hne) (fun x y h k => ol_rem h k) (fun _ _ h _ => tmod_in64 h) h kk
  | lcmp =>
    replace hln : len = 1 := hln.resolve_left (show ¬ (1 : Nat) = 0 by decide)
    subst hln
    exact sn_lcmp C hd h kk
  | i2l =>
    replace hln : len = 1 := hln.resolve_left (show ¬ (1 : Nat) = 0 by decide)
    subst hln
    exact sn_i2l C hd h kk
  | l2i =>
    replace hln : len = 1 := hln.resolve_left (show ¬ (1 : Nat) = 0 by decide)
    subst hln
    exact sn_l2i C hd h kk
  | i2b =>
    replace hln : len = 1 := hln.resolve_left (show ¬ (1 : Nat) = 0 by decide)
    subst hln
    exact sn_i2b C hd h kk
  | dup =>
    replace hln : len = 1 := hln.resolve_left (show ¬ (1 : Nat) = 0 by decide)
    subst hln
    exact sn_dup C hd h kk
  | dup2 =>
    replace hln : len = 1 := hln.resolve_left (show ¬ (1 : Nat) = 0 by decide)
    subst hln
    exact sn_dup2 C hd h kk
  | pop =>
    replace hln : len = 1 := hln.resolve_left (show ¬ (1 : Nat) = 0 by decide)
    subst hln
    exact sn_pop C hd h kk
  | if_icmp cd off =>
    replace hln : len = 3 := hln.resolve_left (show ¬ (3 : Nat) = 0 by decide)
    subst hln
    have ht : 0 ≤ (pc : Int) + off := of_decide_eq_true hc
    cases cd with
    | eq => exact sn_br2 (P := fun x y => x = y) ht (fun kt kf => lv_icmp_eq C.1 C.2.1 hd (jmp_eq ht) kt kf) (fun x y h k => by rw [o_eq h k]; simp) h kk
    | ne => exact sn_br2 (P := fun x y => ¬ x = y) ht (fun kt kf => lv_icmp_ne C.1 C.2.1 hd (jmp_eq ht) kt (fun q => kf (fun z => z q))) (fun x y h k => by rw [o_eq h k]; simp) h kk
    | lt => exact sn_br2 (P := fun x y => x < y) ht (fun kt kf => lv_icmp_lt C.1 C.2.1 hd (jmp_eq ht) kt kf) (fun x y h k => by rw [o_lt h k]; simp) h kk
    | ge => exact sn_br2 (P := fun x y => y ≤ x) ht (fun kt kf => lv_icmp_ge C.1 C.2.1 hd (jmp_eq ht) kt kf) (fun x y h k => by rw [o_le k h]; simp) h kk
    | gt => exact sn_br2 (P := fun x y => y < x) ht (fun kt kf => lv_icmp_gt C.1 C.2.1 hd (jmp_eq ht) kt kf) (fun x y h k => by rw [o_lt k h]; simp) h kk
    | le => exact sn_br2 (P := fun x y => x ≤ y) ht (fun kt kf => lv_icmp_le C.1 C.2.1 hd (jmp_eq ht) kt kf) (fun x y h k => by rw [o_le h k]; simp) h kk
  | ifCond cd off =>
    replace hln : len = 3 := hln.resolve_left (show ¬ (3 : Nat) = 0 by decide)
    subst hln
    have ht : 0 ≤ (pc : Int) + off := of_decide_eq_true hc
    cases cd with
    | eq => exact sn_br1 (P := fun x => x = 0) ht (fun kt kf => lv_if_eq C.1 C.2.1 hd (jmp_eq ht) kt kf) (fun x h => by rw [o_zero, o_eq h i32_0]; simp) h kk
    | ne => exact sn_br1 (P := fun x => ¬ x = 0) ht (fun kt kf => lv_if_ne C.1 C.2.1 hd (jmp_eq ht) kt (fun q => kf (fun z => z q))) (fun x h => by rw [o_zero, o_eq h i32_0]; simp) h kk
    | lt => exact sn_br1 (P := fun x => x < 0) ht (fun kt kf => lv_if_lt C.1 C.2.1 hd (jmp_eq ht) kt kf) (fun x h => by rw [o_zero, o_lt h i32_0]; simp) h kk
    | ge => exact sn_br1 (P := fun x => 0 ≤ x) ht (fun kt kf => lv_if_ge C.1 C.2.1 hd (jmp_eq ht) kt kf) (fun x h => by rw [o_zero, o_le i32_0 h]; simp) h kk
    | gt => exact sn_br1 (P := fun x => 0 < x) ht (fun kt kf => lv_if_gt C.1 C.2.1 hd (jmp_eq ht) kt kf) (fun x h => by rw [o_zero, o_lt i32_0 h]; simp) h kk
    | le => exact sn_br1 (P := fun x => x ≤ 0) ht (fun kt kf => lv_if_le C.1 C.2.1 hd (jmp_eq ht) kt kf) (fun x h => by rw [o_zero, o_le h i32_0]; simp) h kk
  | goto off =>
    replace hln : len = 3 := hln.resolve_left (show ¬ (3 : Nat) = 0 by decide)
    subst hln
    exact sn_goto C hd (of_decide_eq_true hc) h kk
  | tableswitch dflt lo hi offs =>
    simp only [chkA, Bool.and_eq_true, decide_eq_true_eq] at hc
    exact sn_table C hd hc.1.1 hc.1.2 hc.2 h kk
  | lookupswitch dflt ps =>
    simp only [chkA, Bool.and_eq_true, decide_eq_true_eq] at hc
    exact sn_lookup C hd hc.1.1 hc.1.2 hc.2 h kk
  | getfield i =>
    replace hln : len = 3 := hln.resolve_left (show ¬ (3 : Nat) = 0 by decide)
    subst hln
    simp only [chkA, Bool.and_eq_true] at hc
    exact sn_get C hd (Nat.lt_succ_of_le (Nat.le_of_ble_eq_true hc.1.1)) (Nat.le_of_ble_eq_true hc.1.2) hc.2 h kk
  | putfield i =>
    replace hln : len = 3 := hln.resolve_left (show ¬ (3 : Nat) = 0 by decide)
    subst hln
    simp only [chkA, Bool.and_eq_true] at hc
    refine sn_put C hd (Nat.lt_succ_of_le (Nat.le_of_ble_eq_true hc.1.1.1)) (Nat.le_of_ble_eq_true hc.1.1.2) hc.1.2 ?_ hsg h kk
    have h9 := hc.2
    cases hq : (clT a b).2.2.2 with
    | false => exact Or.inl rfl
    | true =>
      rw [hq] at h9
      simp only [Bool.not_true, Bool.false_or, Bool.and_eq_true, decide_eq_true_eq] at h9
      exact Or.inr ⟨rfl, h9.1, h9.2⟩
  | iaload =>
    replace hln : len = 1 := hln.resolve_left (show ¬ (1 : Nat) = 0 by decide)
    subst hln
    exact sn_iald C hd h kk
  | iastore =>
    replace hln : len = 1 := hln.resolve_left (show ¬ (1 : Nat) = 0 by decide)
    subst hln
    exact sn_iast C hd h kk
  | baload =>
    replace hln : len = 1 := hln.resolve_left (show ¬ (1 : Nat) = 0 by decide)
    subst hln
    exact sn_zald C hd h kk
  | bastore =>
    replace hln : len = 1 := hln.resolve_left (show ¬ (1 : Nat) = 0 by decide)
    subst hln
    exact sn_zast C hd h kk
  | aaload =>
    replace hln : len = 1 := hln.resolve_left (show ¬ (1 : Nat) = 0 by decide)
    subst hln
    exact sn_aald C hd h kk
  | aastore =>
    replace hln : len = 1 := hln.resolve_left (show ¬ (1 : Nat) = 0 by decide)
    subst hln
    exact sn_aast C hd hsg h kk
  | arraylength =>
    replace hln : len = 1 := hln.resolve_left (show ¬ (1 : Nat) = 0 by decide)
    subst hln
    exact sn_alen C hd h kk
  | new i =>
    replace hln : len = 3 := hln.resolve_left (show ¬ (3 : Nat) = 0 by decide)
    subst hln
    simp only [chkA, Bool.and_eq_true] at hc
    have hN := exNew_N h
    exact sn_new C hd (Nat.lt_succ_of_le (Nat.le_of_ble_eq_true hc.1)) hc.2 hR1 h (fun q => k _ (fun j hj => adU_old hN hj) (adU_99 hN))
  | newarray at0 =>
    replace hln : len = 2 := hln.resolve_left (show ¬ (2 : Nat) = 0 by decide)
    subst hln
    have hb := arrB
    simp only [Bool.and_eq_true] at hb
    cases at0 with
    | int =>
      have hN := exNewI_N (a := 0) h
      exact sn_newI (kd := 0) (ty := .int) C hd rfl (by decide) rfl (fun cA h1 h2 => ra_int (Or.inl rfl) h1 h2) (w_at C.2.2.2.2.1 hb.1 rfl) rfl (by decide) hR1 h (fun q => k _ (fun j hj => adU_old hN hj) (adU_99 hN))
    | boolean =>
      have hN := exNewI_N (a := 1) h
      exact sn_newI (kd := 1) (ty := .boolean) C hd rfl (by decide) rfl (fun cA h1 h2 => ra_int (Or.inr rfl) h1 h2) (w_at C.2.2.2.2.1 hb.2 rfl) rfl (by decide) hR1 h (fun q => k _ (fun j hj => adU_old hN hj) (adU_99 hN))
    | _ => simp [ex] at h
  | anewarray i =>
    replace hln : len = 3 := hln.resolve_left (show ¬ (3 : Nat) = 0 by decide)
    subst hln
    simp only [chkA, Bool.and_eq_true, Bool.or_eq_true] at hc
    have hN := exNewA_N h
    rcases hc.1 with q | q
    · have q := Nat.eq_of_beq_eq_true q
      subst q
      exact sn_newA (kd := 2) (C0 := "FerryChange$Ferry") C hd (Or.inl rfl) rfl hc.2 C.2.2.2.2.2.2.2.2.1.1 hR1 h (fun q => k _ (fun j hj => adU_old hN hj) (adU_99 hN))
    · have q := Nat.eq_of_beq_eq_true q
      subst q
      exact sn_newA (kd := 3) (C0 := "FerryChange$Row") C hd (Or.inr rfl) rfl hc.2 C.2.2.2.2.2.2.2.2.1.2 hR1 h (fun q => k _ (fun j hj => adU_old hN hj) (adU_99 hN))
  | invokestatic i =>
    replace hln : len = 3 := hln.resolve_left (show ¬ (3 : Nat) = 0 by decide)
    subst hln
    have h : (bif Nat.beq a 9999 then exCpy pc ls st mm else bif Nat.beq a 9997 then exMx true pc ls st mm else bif Nat.beq a 9996 then exMx false pc ls st mm else exCall 0 M a pc st mm) = some (.inl nxt) := h
    simp only [chkA] at hc
    cases e1 : Nat.beq a 9999 with
    | true =>
      rw [e1] at h hc
      exact sn_cpy C hd hnL hc hR h kk
    | false =>
      rw [e1] at h hc
      cases e2 : Nat.beq a 9997 with
      | true =>
        rw [e2] at h hc
        exact sn_max C hd hnL hc hR hR0 h kk
      | false =>
        rw [e2] at h hc
        cases e3 : Nat.beq a 9996 with
        | true =>
          rw [e3] at h hc
          exact sn_min C hd hnL hc hR hR0 h kk
        | false =>
          rw [e3] at h
          exact (call_inl h).elim
  | invokevirtual i => exact (call_inl h).elim
  | invokespecial i =>
    replace hln : len = 3 := hln.resolve_left (show ¬ (3 : Nat) = 0 by decide)
    subst hln
    have h : (bif Nat.beq a 9998 then exObj pc ls st mm else exCall 2 M a pc st mm) = some (.inl nxt) := h
    simp only [chkA] at hc
    cases e1 : Nat.beq a 9998 with
    | true =>
      rw [e1] at h hc
      exact sn_obj C hd hnL hc hR h kk
    | false =>
      rw [e1] at h
      exact (call_inl h).elim
  | ireturn =>
    simp only [ex] at h
    split at h
    next =>
      cases e1 : Nat.beq a 0 with
      | true => rw [e1] at h; cases h
      | false =>
        rw [e1] at h
        dsimp only [cond] at h
        split at h <;> cases h
    next => cases h
  | lreturn =>
    simp only [ex] at h
    split at h <;> cases h
  | return_ =>
    simp only [ex] at h
    split at h <;> cases h
  | _ => simp [ex] at h
end DP
end
section
/-! RUNS OF THE ABSTRACT MACHINE ARE RUNS OF THE JVM -/
def Mo (mm : AMem) (nxt : Nat × ALs × List AV × AMem) : Prop := mm.2.1 ≤ nxt.2.2.2.2.1 ∧ mm.2.2 ≤ nxt.2.2.2.2.2
def IL (mm : AMem) (o : ROut) : Prop := ∃ nxt, o = .inl nxt ∧ Mo mm nxt ∧ ∀ L f, mm.1 (99, 0) = .inl (4, L, f) → nxt.2.2.2.1 (99, 0) = .inl (4, L, f)
theorem il_nx {pc : Nat} {ls : ALs} {st : List AV} {mm : AMem} {o : ROut} (h : nx pc ls st mm = some o) : IL mm o := by
  unfold nx at h
  cases h
  exact ⟨_, rfl, ⟨Nat.le_refl _, Nat.le_refl _⟩, fun _ _ h => h⟩
theorem il_up {pc : Nat} {ls : ALs} {st : List AV} {mm : AMem} {o : ROut} {k : AK} {e : AE} (h : nx pc ls st (upM mm.1 k e, mm.2) = some o) (hk : ∀ L f, mm.1 k ≠ .inl (4, L, f)) : IL mm o := by
  unfold nx at h
  cases h
  refine ⟨_, rfl, ⟨Nat.le_refl _, Nat.le_refl _⟩, fun L f q => ?_⟩
  show upM mm.1 k e (99, 0) = _
  have hne : (99, 0) ≠ k := fun z => hk L f (by rw [← z]; exact q)
  simp [upM, hne, q]
theorem il_nw {pc : Nat} {ls : ALs} {st : List AV} {mm : AMem} {o : ROut} {e : AE} {w : Nat} (h : nx pc ls st (upM mm.1 (nm mm.2.1) e, mm.2.1 + 1, mm.2.2 + w) = some o) (hN : Nat.ble (mm.2.1 + 1) NTOT = true) : IL mm o := by
  unfold nx at h
  cases h
  refine ⟨_, rfl, ⟨Nat.le_succ _, Nat.le_add_right _ _⟩, fun L f q => ?_⟩
  show upM mm.1 (nm mm.2.1) e (99, 0) = _
  have hne : (99, 0) ≠ nm mm.2.1 := fun z => nm_99 (Nat.le_of_ble_eq_true hN) z.symm
  simp [upM, hne, q]
theorem cond_some {α : Type} {b : Bool} {x : Option α} {o : α} (h : (bif b then x else none) = some o) : b = true ∧ x = some o := by
  cases b
  · cases h
  · exact ⟨rfl, h⟩
theorem ite_some {α : Type} {b : Prop} [Decidable b] {x : Option α} {o : α} (h : (if b then x else none) = some o) : b ∧ x = some o := by
  split at h
  · next hb => exact ⟨hb, h⟩
  · cases h
theorem il_ldI {ls : ALs} {k pc : Nat} {st : List AV} {mm : AMem} {o : ROut} (h : ldI ls k pc st mm = some o) : IL mm o := by
  unfold ldI at h
  (repeat' split at h)
  all_goals first
    | (cases h; done)
    | (cases (cond_some h).2; done)
    | exact il_nx h
    | exact il_nx (cond_some h).2
    | exact il_nx (ite_some h).2
    | exact il_nx (ite_some (cond_some h).2).2
theorem il_ldL {ls : ALs} {k pc : Nat} {st : List AV} {mm : AMem} {o : ROut} (h : ldL ls k pc st mm = some o) : IL mm o := by
  unfold ldL at h
  (repeat' split at h)
  all_goals first
    | (cases h; done)
    | (cases (cond_some h).2; done)
    | exact il_nx h
    | exact il_nx (cond_some h).2
    | exact il_nx (ite_some h).2
    | exact il_nx (ite_some (cond_some h).2).2
theorem il_ldA {ls : ALs} {k pc : Nat} {st : List AV} {mm : AMem} {o : ROut} (h : ldA ls k pc st mm = some o) : IL mm o := by
  unfold ldA at h
  (repeat' split at h)
  all_goals first
    | (cases h; done)
    | (cases (cond_some h).2; done)
    | exact il_nx h
    | exact il_nx (cond_some h).2
    | exact il_nx (ite_some h).2
    | exact il_nx (ite_some (cond_some h).2).2
theorem il_stI {ls : ALs} {k pc : Nat} {st : List AV} {mm : AMem} {o : ROut} (h : stI ls k pc st mm = some o) : IL mm o := by
  unfold stI at h
  (repeat' split at h)
  all_goals first
    | (cases h; done)
    | (cases (cond_some h).2; done)
    | exact il_nx h
    | exact il_nx (cond_some h).2
    | exact il_nx (ite_some h).2
    | exact il_nx (ite_some (cond_some h).2).2
theorem il_stL {ls : ALs} {k pc : Nat} {st : List AV} {mm : AMem} {o : ROut} (h : stL ls k pc st mm = some o) : IL mm o := by
  unfold stL at h
  (repeat' split at h)
  all_goals first
    | (cases h; done)
    | (cases (cond_some h).2; done)
    | exact il_nx h
    | exact il_nx (cond_some h).2
    | exact il_nx (ite_some h).2
    | exact il_nx (ite_some (cond_some h).2).2
theorem il_stA {ls : ALs} {k pc : Nat} {st : List AV} {mm : AMem} {o : ROut} (h : stA ls k pc st mm = some o) : IL mm o := by
  unfold stA at h
  (repeat' split at h)
  all_goals first
    | (cases h; done)
    | (cases (cond_some h).2; done)
    | exact il_nx h
    | exact il_nx (cond_some h).2
    | exact il_nx (ite_some h).2
    | exact il_nx (ite_some (cond_some h).2).2
theorem il_bnI {f : Int → Int → Int} {pc : Nat} {ls : ALs} {st : List AV} {mm : AMem} {o : ROut} (h : bnI f pc ls st mm = some o) : IL mm o := by
  unfold bnI at h
  (repeat' split at h)
  all_goals first
    | (cases h; done)
    | (cases (cond_some h).2; done)
    | exact il_nx h
    | exact il_nx (cond_some h).2
    | exact il_nx (ite_some h).2
    | exact il_nx (ite_some (cond_some h).2).2
theorem il_bnD {f : Int → Int → Int} {pc : Nat} {ls : ALs} {st : List AV} {mm : AMem} {o : ROut} (h : bnD f pc ls st mm = some o) : IL mm o := by
  unfold bnD at h
  (repeat' split at h)
  all_goals first
    | (cases h; done)
    | (cases (cond_some h).2; done)
    | exact il_nx h
    | exact il_nx (cond_some h).2
    | exact il_nx (ite_some h).2
    | exact il_nx (ite_some (cond_some h).2).2
theorem il_bnL {f : Int → Int → Int} {pc : Nat} {ls : ALs} {st : List AV} {mm : AMem} {o : ROut} (h : bnL f pc ls st mm = some o) : IL mm o := by
  unfold bnL at h
  (repeat' split at h)
  all_goals first
    | (cases h; done)
    | (cases (cond_some h).2; done)
    | exact il_nx h
    | exact il_nx (cond_some h).2
    | exact il_nx (ite_some h).2
    | exact il_nx (ite_some (cond_some h).2).2
theorem il_bnM {f : Int → Int → Int} {pc : Nat} {ls : ALs} {st : List AV} {mm : AMem} {o : ROut} (h : bnM f pc ls st mm = some o) : IL mm o := by
  unfold bnM at h
  (repeat' split at h)
  all_goals first
    | (cases h; done)
    | (cases (cond_some h).2; done)
    | exact il_nx h
    | exact il_nx (cond_some h).2
    | exact il_nx (ite_some h).2
    | exact il_nx (ite_some (cond_some h).2).2
theorem il_br2 {f : Int → Int → Bool} {pc : Nat} {off : Int} {ls : ALs} {st : List AV} {mm : AMem} {o : ROut} (h : br2 f pc off ls st mm = some o) : IL mm o := by
  unfold br2 at h
  (repeat' split at h)
  all_goals first
    | (cases h; done)
    | (cases (cond_some h).2; done)
    | exact il_nx h
    | exact il_nx (cond_some h).2
    | exact il_nx (ite_some h).2
    | exact il_nx (ite_some (cond_some h).2).2
theorem il_br1 {f : Int → Bool} {pc : Nat} {off : Int} {ls : ALs} {st : List AV} {mm : AMem} {o : ROut} (h : br1 f pc off ls st mm = some o) : IL mm o := by
  unfold br1 at h
  (repeat' split at h)
  all_goals first
    | (cases h; done)
    | (cases (cond_some h).2; done)
    | exact il_nx h
    | exact il_nx (cond_some h).2
    | exact il_nx (ite_some h).2
    | exact il_nx (ite_some (cond_some h).2).2
theorem il_exGet {a b pc : Nat} {ls : ALs} {st : List AV} {mm : AMem} {o : ROut} (h : exGet a b pc ls st mm = some o) : IL mm o := by
  unfold exGet at h
  (repeat' split at h)
  all_goals first
    | (cases h; done)
    | (cases (cond_some h).2; done)
    | exact il_nx h
    | exact il_nx (cond_some h).2
    | exact il_nx (ite_some h).2
    | exact il_nx (ite_some (cond_some h).2).2
theorem il_exLd {pc : Nat} {ls : ALs} {st : List AV} {mm : AMem} {o : ROut} (h : exLd pc ls st mm = some o) : IL mm o := by
  unfold exLd at h
  (repeat' split at h)
  all_goals first
    | (cases h; done)
    | (cases (cond_some h).2; done)
    | exact il_nx h
    | exact il_nx (cond_some h).2
    | exact il_nx (ite_some h).2
    | exact il_nx (ite_some (cond_some h).2).2
theorem il_exLdZ {pc : Nat} {ls : ALs} {st : List AV} {mm : AMem} {o : ROut} (h : exLdZ pc ls st mm = some o) : IL mm o := by
  unfold exLdZ at h
  (repeat' split at h)
  all_goals first
    | (cases h; done)
    | (cases (cond_some h).2; done)
    | exact il_nx h
    | exact il_nx (cond_some h).2
    | exact il_nx (ite_some h).2
    | exact il_nx (ite_some (cond_some h).2).2
theorem il_exLdA {pc : Nat} {ls : ALs} {st : List AV} {mm : AMem} {o : ROut} (h : exLdA pc ls st mm = some o) : IL mm o := by
  unfold exLdA at h
  (repeat' split at h)
  all_goals first
    | (cases h; done)
    | (cases (cond_some h).2; done)
    | exact il_nx h
    | exact il_nx (cond_some h).2
    | exact il_nx (ite_some h).2
    | exact il_nx (ite_some (cond_some h).2).2
theorem il_exLen {pc : Nat} {ls : ALs} {st : List AV} {mm : AMem} {o : ROut} (h : exLen pc ls st mm = some o) : IL mm o := by
  unfold exLen at h
  (repeat' split at h)
  all_goals first
    | (cases h; done)
    | (cases (cond_some h).2; done)
    | exact il_nx h
    | exact il_nx (cond_some h).2
    | exact il_nx (ite_some h).2
    | exact il_nx (ite_some (cond_some h).2).2
theorem il_exObj {pc : Nat} {ls : ALs} {st : List AV} {mm : AMem} {o : ROut} (h : exObj pc ls st mm = some o) : IL mm o := by
  unfold exObj at h
  (repeat' split at h)
  all_goals first
    | (cases h; done)
    | (cases (cond_some h).2; done)
    | exact il_nx h
    | exact il_nx (cond_some h).2
    | exact il_nx (ite_some h).2
    | exact il_nx (ite_some (cond_some h).2).2
theorem il_exMx {b : Bool} {pc : Nat} {ls : ALs} {st : List AV} {mm : AMem} {o : ROut} (h : exMx b pc ls st mm = some o) : IL mm o := by
  unfold exMx at h
  (repeat' split at h)
  all_goals first
    | (cases h; done)
    | (cases (cond_some h).2; done)
    | exact il_nx h
    | exact il_nx (cond_some h).2
    | exact il_nx (ite_some h).2
    | exact il_nx (ite_some (cond_some h).2).2
theorem il_exPut {M a b pc : Nat} {ls : ALs} {st : List AV} {mm : AMem} {o : ROut} (h : exPut M a b pc ls st mm = some o) : IL mm o := by
  unfold exPut at h
  split at h
  next v k r =>
    split at h
    next c0 f hm => exact il_up (cond_some h).2 (fun L g q => by rw [hm] at q; cases q)
    next => cases h
  next => cases h
theorem il_exSt {pc : Nat} {ls : ALs} {st : List AV} {mm : AMem} {o : ROut} (h : exSt pc ls st mm = some o) : IL mm o := by
  unfold exSt at h
  split at h
  next x i k r =>
    split at h
    next kd n f hm =>
      have h1 := cond_some h
      have h0 := Nat.eq_of_beq_eq_true h1.1
      exact il_up (ite_some h1.2).2 (fun L g q => by rw [hm, h0] at q; cases q)
    next => cases h
  next => cases h
theorem il_exStZ {pc : Nat} {ls : ALs} {st : List AV} {mm : AMem} {o : ROut} (h : exStZ pc ls st mm = some o) : IL mm o := by
  unfold exStZ at h
  split at h
  next x i k r =>
    split at h
    next kd n f hm =>
      have h1 := cond_some h
      have h0 := Nat.eq_of_beq_eq_true h1.1
      exact il_up (ite_some h1.2).2 (fun L g q => by rw [hm, h0] at q; cases q)
    next => cases h
  next => cases h
theorem il_exStA {M pc : Nat} {ls : ALs} {st : List AV} {mm : AMem} {o : ROut} (h : exStA M pc ls st mm = some o) : IL mm o := by
  unfold exStA at h
  split at h
  next v i k r =>
    split at h
    next kd n f c0 g0 hm hv => exact il_up (ite_some (cond_some h).2).2 (fun L g q => by rw [hm] at q; cases q)
    next => cases h
  next => cases h
theorem il_exCpy {pc : Nat} {ls : ALs} {st : List AV} {mm : AMem} {o : ROut} (h : exCpy pc ls st mm = some o) : IL mm o := by
  unfold exCpy at h
  split at h
  next n dp k1 sp k0 r =>
    split at h
    next d0 n0 f d1 n1 g hm0 hm1 =>
      have h1 := cond_some h
      have h2 := h1.1
      simp only [Bool.and_eq_true] at h2
      have h0 := Nat.eq_of_beq_eq_true h2.1.2
      exact il_up (ite_some h1.2).2 (fun L g q => by rw [hm1, h0] at q; cases q)
    next => cases h
  next => cases h
theorem il_exNew {a pc : Nat} {ls : ALs} {st : List AV} {mm : AMem} {o : ROut} (h : exNew a pc ls st mm = some o) : IL mm o := by
  unfold exNew at h
  have h1 := cond_some h
  have h2 := h1.1
  simp only [Bool.and_eq_true] at h2
  exact il_nw h1.2 h2.1
theorem il_exNewI {a pc : Nat} {ls : ALs} {st : List AV} {mm : AMem} {o : ROut} (h : exNewI a pc ls st mm = some o) : IL mm o := by
  unfold exNewI at h
  split at h
  next => exact il_nw (ite_some (cond_some h).2).2 (cond_some h).1
  next => cases h
theorem il_exNewA {a pc : Nat} {ls : ALs} {st : List AV} {mm : AMem} {o : ROut} (h : exNewA a pc ls st mm = some o) : IL mm o := by
  unfold exNewA at h
  split at h
  next => exact il_nw (ite_some (cond_some h).2).2 (cond_some h).1
  next => cases h
set_option maxHeartbeats 4000000 in
theorem ex_inv {M pc : Nat} {ls : ALs} {st : List AV} {mm : AMem} {q : INS} {o : ROut} (h : ex M pc ls st mm q = some o) : IL mm o ∨
    (∃ kind i, ((kind = 0 ∧ q.1 = .invokestatic i ∧ Nat.beq q.2.2.1 9999 = false ∧ Nat.beq q.2.2.1 9997 = false ∧ Nat.beq q.2.2.1 9996 = false) ∨ (kind = 1 ∧ q.1 = .invokevirtual i) ∨ (kind = 2 ∧ q.1 = .invokespecial i ∧ Nat.beq q.2.2.1 9998 = false)) ∧ exCall kind M q.2.2.1 pc st mm = some o) ∨
    (q.1 = .ireturn ∧ ∃ x, st = [.inl x] ∧ o = .inr (.inl (some (vi x))) ∧ (Nat.beq q.2.2.1 0 = true ∨ (x = 0 ∨ x = 1))) ∨ (q.1 = .lreturn ∧ ∃ x, st = [.inr (.inl x)] ∧ o = .inr (.inl (some (vl x)))) ∨ (q.1 = .return_ ∧ st = [] ∧ o = .inr (.inl none)) := by
  obtain ⟨ins, len, a, b, z⟩ := q
  cases ins with
  | iconst n => exact Or.inl (il_nx h)
  | bipush n => exact Or.inl (il_nx h)
  | sipush n => exact Or.inl (il_nx h)
  | lconst n => exact Or.inl (il_nx h)
  | ldc n => exact Or.inl (il_nx h)
  | ldc_w n => exact Or.inl (il_nx h)
  | ldc2_w n => exact Or.inl (il_nx h)
  | iload i => exact Or.inl (il_ldI h)
  | iload_n i => exact Or.inl (il_ldI h)
  | lload i => exact Or.inl (il_ldL h)
  | lload_n i => exact Or.inl (il_ldL h)
  | aload i => exact Or.inl (il_ldA h)
  | aload_n i => exact Or.inl (il_ldA h)
  | istore i => exact Or.inl (il_stI h)
  | istore_n i => exact Or.inl (il_stI h)
  | lstore i => exact Or.inl (il_stL h)
  | lstore_n i => exact Or.inl (il_stL h)
  | astore i => exact Or.inl (il_stA h)
  | astore_n i => exact Or.inl (il_stA h)
  | iadd => exact Or.inl (il_bnI h)
  | isub => exact Or.inl (il_bnI h)
  | imul => exact Or.inl (il_bnI h)
  | iand => exact Or.inl (il_bnI h)
  | ior => exact Or.inl (il_bnI h)
  | ixor => exact Or.inl (il_bnI h)
  | ishl => exact Or.inl (il_bnI h)
  | ishr => exact Or.inl (il_bnI h)
  | iushr => exact Or.inl (il_bnI h)
  | idiv => exact Or.inl (il_bnD h)
  | irem => exact Or.inl (il_bnD h)
  | ladd => exact Or.inl (il_bnL h)
  | lmul => exact Or.inl (il_bnL h)
  | ldiv => exact Or.inl (il_bnM h)
  | lrem => exact Or.inl (il_bnM h)
  | goto i => exact Or.inl (il_nx h)
  | getfield i => exact Or.inl (il_exGet h)
  | putfield i => exact Or.inl (il_exPut h)
  | iaload => exact Or.inl (il_exLd h)
  | iastore => exact Or.inl (il_exSt h)
  | baload => exact Or.inl (il_exLdZ h)
  | bastore => exact Or.inl (il_exStZ h)
  | aaload => exact Or.inl (il_exLdA h)
  | aastore => exact Or.inl (il_exStA h)
  | arraylength => exact Or.inl (il_exLen h)
  | new i => exact Or.inl (il_exNew h)
  | anewarray i => exact Or.inl (il_exNewA h)
  | if_icmp cd off => cases cd <;> exact Or.inl (il_br2 h)
  | ifCond cd off => cases cd <;> exact Or.inl (il_br1 h)
  | newarray at0 =>
    cases at0 with
    | int => exact Or.inl (il_exNewI h)
    | boolean => exact Or.inl (il_exNewI h)
    | _ => simp [ex] at h
  | invokestatic i =>
    have h : (bif Nat.beq a 9999 then exCpy pc ls st mm else bif Nat.beq a 9997 then exMx true pc ls st mm else bif Nat.beq a 9996 then exMx false pc ls st mm else exCall 0 M a pc st mm) = some o := h
    cases e1 : Nat.beq a 9999 with
    | true => rw [e1] at h; exact Or.inl (il_exCpy h)
    | false =>
      rw [e1] at h
      cases e2 : Nat.beq a 9997 with
      | true => rw [e2] at h; exact Or.inl (il_exMx h)
      | false =>
        rw [e2] at h
        cases e3 : Nat.beq a 9996 with
        | true => rw [e3] at h; exact Or.inl (il_exMx h)
        | false => rw [e3] at h; exact Or.inr (Or.inl ⟨0, i, Or.inl ⟨rfl, rfl, (by first | rfl | assumption), (by first | rfl | assumption), (by first | rfl | assumption)⟩, h⟩)
  | invokevirtual i => exact Or.inr (Or.inl ⟨1, i, Or.inr (Or.inl ⟨rfl, rfl⟩), h⟩)
  | invokespecial i =>
    have h : (bif Nat.beq a 9998 then exObj pc ls st mm else exCall 2 M a pc st mm) = some o := h
    cases e1 : Nat.beq a 9998 with
    | true => rw [e1] at h; exact Or.inl (il_exObj h)
    | false => rw [e1] at h; exact Or.inr (Or.inl ⟨2, i, Or.inr (Or.inr ⟨rfl, rfl, (by first | rfl | assumption)⟩), h⟩)
  | ireturn =>
    simp only [ex] at h
    split at h
    next x =>
      cases e1 : Nat.beq a 0 with
      | true => rw [e1] at h; cases h; exact Or.inr (Or.inr (Or.inl ⟨rfl, x, rfl, rfl, Or.inl (by first | rfl | assumption)⟩))
      | false =>
        rw [e1] at h
        dsimp only [cond] at h
        split at h
        next hx => cases h; exact Or.inr (Or.inr (Or.inl ⟨rfl, x, rfl, rfl, Or.inr hx⟩))
        next => cases h
    next => cases h
  | lreturn =>
    simp only [ex] at h
    split at h
    next x => cases h; exact Or.inr (Or.inr (Or.inr (Or.inl ⟨rfl, x, rfl, rfl⟩)))
    next => cases h
  | return_ =>
    simp only [ex] at h
    split at h
    next => cases h; exact Or.inr (Or.inr (Or.inr (Or.inr ⟨rfl, rfl, rfl⟩)))
    next => cases h
  | iinc i n =>
    simp only [ex] at h
    (repeat' split at h)
    all_goals first | (cases h; done) | exact Or.inl (il_nx h)
  | ineg | lcmp | i2l | l2i | i2b | dup | dup2 | pop | tableswitch | lookupswitch =>
    simp only [ex] at h
    (repeat' split at h)
    all_goals first | (cases h; done) | exact Or.inl (il_nx h)
  | _ => simp [ex] at h
end
section
/-! THE INDUCTION -/
theorem go_mono : ∀ {n d M pc : Nat} {ls : ALs} {st : List AV} {mm : AMem} {r : Option AV} {mmF : AMem}, go n d M pc ls st mm = some (r, mmF) → (mm.2.1 ≤ mmF.2.1 ∧ mm.2.2 ≤ mmF.2.2) ∧ ∀ L f, mm.1 (99, 0) = .inl (4, L, f) → mmF.1 (99, 0) = .inl (4, L, f)
  | 0, _, _, _, _, _, _, _, _, h => by simp [go] at h
  | n + 1, d, M, pc, ls, st, mm, r, mmF, h => by
    simp only [go] at h
    split at h
    next => cases h
    next q hq =>
      split at h
      next => cases h
      next pc' ls' st' mm' he =>
        have h1 := go_mono h
        rcases ex_inv he with ⟨nxt, e1, e2, e3⟩ | ⟨kind, i, -, e1⟩ | ⟨-, x, -, e1, -⟩ | ⟨-, x, -, e1⟩ | ⟨-, -, e1⟩
        · cases e1
          exact ⟨⟨Nat.le_trans e2.1 h1.1.1, Nat.le_trans e2.2 h1.1.2⟩, fun L f q => h1.2 L f (e3 L f q)⟩
        · exact (call_inl e1).elim
        · cases e1
        · cases e1
        · cases e1
      next r' he => cases h; exact ⟨⟨Nat.le_refl _, Nat.le_refl _⟩, fun _ _ q => q⟩
      next M' av rest pc' he =>
        split at h
        next => cases h
        next d' =>
          split at h
          next => cases h
          next r1 mm1 h1 =>
            have a1 := go_mono h1
            have a2 := go_mono h
            exact ⟨⟨Nat.le_trans a1.1.1 a2.1.1, Nat.le_trans a1.1.2 a2.1.2⟩, fun L f q => a2.2 L f (a1.2 L f q)⟩
noncomputable def wsM (M : Nat) : List Cond := Cond.code (minf M).1 (minf M).2.1 (minf M).2.2.1 (minf M).2.2.2.1 :: gw
def rmD (d uc us : Nat) : Room := { frames := d + 1, cells := uc, slots := us, locals := 100 * (d + 1) }
theorem nw_form {w : Cond} (h : w ∈ nw) : ∃ a i x hh, w = .methodLinkNest a i x hh := by
  have h1 := (List.mem_filter.mp h).2
  cases w <;> first | exact ⟨_, _, _, _, rfl⟩ | (simp [isNest] at h1; done)
def Pcc (D : va_G) (dA : Nat → ClassId) (ad : AK → Nat) (mm : AMem) (av : List AV) (sz : Nat) : Array Value → State → Prop :=
  va_Pc (av.map (cv ad)) (fun U => U.heap.size = sz ∧ va_P D vwCl (wl dA ad mm) U.heap ∧ va_K D vwCl (tyA dA) U ∧ va_D (fun _ => True) (wl dA ad mm) ∧ (va_AO "FerryChange$Ferry" U ∧ va_AO "FerryChange$Row" U) ∧ ∀ w ∈ nw, va_Nw w U)
def Qg (D : va_G) (dA : Nat → ClassId) (ad : AK → Nat) (mm : AMem) (r : Option AV) (mmF : AMem) (A : Nat → Prop) : Array Value → State → Outcome → State → Prop := fun _ st o t =>
  (∃ ad' : AK → Nat, o = .returned (r.map (cv ad')) ∧ (∀ j, j < mm.2.1 → ad' (nm j) = ad (nm j)) ∧ va_P D vwCl (wl dA ad' mmF) t.heap ∧ va_D A (wl dA ad' mmF) ∧ okM mmF ∧ (∀ v, r = some v → okv mmF.2.1 false v)) ∧ va_F A st t
theorem Pcc_blind (D : va_G) (dA : Nat → ClassId) (ad : AK → Nat) (mm : AMem) (av : List AV) (sz : Nat) : FrameBlind (Pcc D dA ad mm av sz) := by
  intro a U g mk q
  obtain ⟨q0, q1, qP, qK, qD, qO, qN⟩ := q
  refine ⟨q0, q1, qP, va_K.moved (u := U) (U := U.calling g mk a) (Vm.Alike.refl U.vm) qK, qD, ⟨va_AO.moved (u := U) (U := U.calling g mk a) (Vm.Alike.refl U.vm) qO.1, va_AO.moved (u := U) (U := U.calling g mk a) (Vm.Alike.refl U.vm) qO.2⟩, fun w hw => ?_⟩
  obtain ⟨_, _, _, _, rfl⟩ := nw_form hw
  exact va_Nw.same (u := U) (U := U.calling g mk a) rfl rfl (qN _ hw)
def RM (R : Room) (d N0 S0 : Nat) (mmF : AMem) : Prop := d + 1 ≤ R.frames ∧ 100 * (d + 1) ≤ R.locals ∧ mmF.2.1 ≤ R.cells + N0 ∧ mmF.2.2 ≤ R.slots + S0
def RF (M pc : Nat) (r : Option AV) : Prop := match r with
  | none => decode (minf M).2.1 pc = .ok (.return_, 1) ∧ (minf M).2.2.2.1 = none
  | some (.inl x) => decode (minf M).2.1 pc = .ok (.ireturn, 1) ∧ i32 x ∧ ((minf M).2.2.2.1 = some .int ∨ ((minf M).2.2.2.1 = some .boolean ∧ (x = 0 ∨ x = 1)))
  | some (.inr (.inl x)) => decode (minf M).2.1 pc = .ok (.lreturn, 1) ∧ i64 x ∧ (minf M).2.2.2.1 = some .long
  | _ => False
def Fin (p : Program) (l : Launch) (e : Env) (R : Room) (s : State) (m : MethodId) (args : Array Value) (below : List Frame) (meth : Method) (c : Code) (Q : State → Prop) (D : va_G) (dA : Nat → ClassId) (A : Nat → Prop) (N0 S0 M : Nat) (N : Nat) (ad : AK → Nat) (r : Option AV) (mmF : AMem) : Prop :=
  ∀ (ad' : AK → Nat) (pc : Nat) (lsc : Array Slot) (H : Heap) (locs : List Loc) (cells slots : Nat), (∀ j, j < N → ad' (nm j) = ad (nm j)) → RF M pc r → va_P D vwCl (wl dA ad' mmF) H → va_D A (wl dA ad' mmF) → va_S A s.heap H locs → okM mmF → cells + N0 = mmF.2.1 → slots + S0 = mmF.2.2 → W p l e R s m args below meth c H locs cells slots Q (F0 m pc lsc (r.toList.map (cv ad')))
def SND (n : Nat) : Prop := ∀ (d M pc : Nat) (ls : ALs) (st : List AV) (mm : AMem) (r : Option AV) (mmF : AMem), go n d M pc ls st mm = some (r, mmF) → ∀ (p : Program) (l : Launch) (e : Env) (R : Room) (s : State) (m : MethodId) (args : Array Value) (below : List Frame) (meth : Method) (c : Code) (Q : State → Prop) (D : va_G) (dA : Nat → ClassId) (A : Nat → Prop) (sg : Bool) (nL N0 S0 : Nat) (ad : AK → Nat),
  Cx p s m args meth c D dA A M → c.maxLocals = nL → (1 ≤ M → sg = false) → RM R d N0 S0 mmF → Fin p l e R s m args below meth c Q D dA A N0 S0 M mm.2.1 ad r mmF → WG p l e R s m args below meth c Q D dA A sg nL N0 S0 ad (pc, ls, st, mm)
/-! entry -/
theorem ent_len (ad : AK → Nat) : ∀ av : List AV, (lg_sl (av.map (cv ad))).length = (entL av).length
  | [] => rfl
  | .inl x :: t => by
    have := ent_len ad t
    simp only [lg_sl, List.map_cons, List.flatMap_cons, List.length_append, entL, List.length_cons] at this ⊢
    rw [this]
    simp [cv, Value.category]
    omega
  | .inr (.inl x) :: t => by
    have := ent_len ad t
    simp only [lg_sl, List.map_cons, List.flatMap_cons, List.length_append, entL, List.length_cons] at this ⊢
    rw [this]
    simp [cv, Value.category]
    omega
  | .inr (.inr none) :: t => by
    have := ent_len ad t
    simp only [lg_sl, List.map_cons, List.flatMap_cons, List.length_append, entL, List.length_cons] at this ⊢
    rw [this]
    simp [cv, Value.category]
    omega
  | .inr (.inr (some k)) :: t => by
    have := ent_len ad t
    simp only [lg_sl, List.map_cons, List.flatMap_cons, List.length_append, entL, List.length_cons] at this ⊢
    rw [this]
    simp [cv, Value.category]
    omega
theorem lg_cons1 {v : Value} {vs : List Value} (h : v.category ≠ 2) : lg_sl (v :: vs) = .val v :: lg_sl vs := by simp [lg_sl, h]
theorem lg_cons2 {v : Value} {vs : List Value} (h : v.category = 2) : lg_sl (v :: vs) = .val v :: .second :: lg_sl vs := by simp [lg_sl, h]
theorem ent_at (ad : AK → Nat) : ∀ (av : List AV) (k : Nat) (v : AV), nth (entL av) k none = some v → (lg_sl (av.map (cv ad)))[k]? = some (.val (cv ad v)) ∧ v ∈ av
  | [], k, v, h => by rw [entL, nth_nil] at h; cases h
  | .inl x :: t, k, v, h => by
    rw [List.map_cons, lg_cons1 (by simp [cv, Value.category])]
    cases k with
    | zero => simp only [entL, nth] at h; cases h; exact ⟨rfl, List.mem_cons_self⟩
    | succ k =>
      obtain ⟨a1, a2⟩ := ent_at ad t k v h
      exact ⟨by simpa using a1, List.mem_cons_of_mem _ a2⟩
  | .inr (.inl x) :: t, k, v, h => by
    rw [List.map_cons, lg_cons2 (by simp [cv, Value.category])]
    match k, h with
    | 0, h => simp only [entL, nth] at h; cases h; exact ⟨rfl, List.mem_cons_self⟩
    | 1, h => simp only [entL, nth] at h; cases h
    | k + 2, h =>
      obtain ⟨a1, a2⟩ := ent_at ad t k v h
      exact ⟨by simpa using a1, List.mem_cons_of_mem _ a2⟩
  | .inr (.inr y) :: t, k, v, h => by
    rw [List.map_cons, lg_cons1 (by cases y <;> simp [cv, Value.category])]
    cases k with
    | zero => simp only [entL, nth] at h; cases h; exact ⟨rfl, List.mem_cons_self⟩
    | succ k =>
      obtain ⟨a1, a2⟩ := ent_at ad t k v h
      exact ⟨by simpa using a1, List.mem_cons_of_mem _ a2⟩
theorem padL_len : ∀ {l : ALs} {n : Nat}, l.length ≤ n → (padL l n).length = n
  | l, 0, h => by simp at h; subst h; rfl
  | [], n + 1, _ => by simp [padL, padL_len (l := []) (n := n) (by simp)]
  | a :: t, n + 1, h => by simp only [padL, List.length_cons]; rw [padL_len (by simpa using h)]
theorem padL_nth : ∀ {l : ALs} {n k : Nat}, nth (padL l n) k none = nth l k none
  | l, 0, k => by simp [padL]
  | [], n + 1, 0 => rfl
  | [], n + 1, k + 1 => by
    show nth (padL [] n) k none = nth [] (k + 1) none
    rw [padL_nth, nth_nil, nth_nil]
  | a :: t, n + 1, 0 => rfl
  | a :: t, n + 1, k + 1 => padL_nth (l := t)
theorem ent_LR {ad : AK → Nat} {av : List AV} {n : Nat} (h : (entL av).length ≤ n) : LR ad n (padL (entL av) n) ((lg_sl (av.map (cv ad)) ++ List.replicate (n - (lg_sl (av.map (cv ad))).length) Slot.unset).toArray) := by
  have h1 := lv_entry (av.map (cv ad)) (n := n) (by rw [ent_len]; exact h)
  refine ⟨h1.1, h1.2.1, padL_len h, fun k v hv => ?_⟩
  rw [padL_nth] at hv
  obtain ⟨a1, -⟩ := ent_at ad av k v hv
  have hk : k < (lg_sl (av.map (cv ad))).length := (List.getElem?_eq_some_iff.mp a1).1
  simp only [List.getElem?_toArray]
  rw [List.getElem?_append_left hk]
  exact a1
end
section
/-! A METHOD'S CONTRACT out of a run of it -/
theorem wsM_good : ∀ w ∈ gw, (w.onTables && w.keeps) = true ∨ ∃ ty, w = .arrayClass ty := fun w h => good_of_word (List.mem_filter.mp h).2
theorem met_ok {n : Nat} (ih : SND n) {d M : Nat} {av : List AV} {mm mmF : AMem} {r : Option AV} (hgo : go n d M 0 (entry M av) [] mm = some (r, mmF)) (h0 : 0 < M) (h1 : M < NM) (hav : ∀ v ∈ av, okv mm.2.1 false v) (hM : okM mm) (hent : (entL av).length ≤ (minf M).2.2.1) (l : Launch) (D : va_G) (dA : Nat → ClassId) (ad : AK → Nat) (sz : Nat) :
    Met l (minf M).1 (wsM M) (rmD d (mmF.2.1 - mm.2.1) (mmF.2.2 - mm.2.2)) (Pcc D dA ad mm av sz) (Qg D dA ad mm r mmF (va_A (wl dA ad mm) sz)) (mmF.2.1 - mm.2.1) (mmF.2.2 - mm.2.2) (va_A (wl dA ad mm) sz) := by
  obtain ⟨hcode, hN⟩ := cm_all h0 h1
  unfold chkN at hN
  simp only [Bool.and_eq_true, decide_eq_true_eq] at hN
  have hplain : plainName (minf M).1.cls = true := hN.2
  have hmo := (go_mono hgo).1
  refine Met.ofW (cc := (minf M).2.1) (maxL := (minf M).2.2.1) (ret := (minf M).2.2.2.1) hplain rfl ?_
  intro p e s m args below meth c s₁ B hml hv
  obtain ⟨rfl, hsz, hP, hK, hD0, hO, hNw⟩ := hv
  subst hsz
  have hts := atoms_spec (ws := wsM M) B.pre
  have hlocks := B.notSynchronized
  have hr := B.returns
  have hD := hD0.self (sz := s.heap.size)
  generalize hAe : va_A (wl dA ad mm) s.heap.size = A at hD ⊢
  have hA : ∀ q : Nat, s.heap.size ≤ q → A q := fun q h => by rw [← hAe]; exact Or.inr h
  have C : Cx p s m (av.map (cv ad)).toArray meth c D dA A M := ⟨B.exec, B.bytes, hml, findClass_of_methodNamed B.named, fun w hw => hts w (List.mem_cons_of_mem _ hw), hK, hA, (name_of_methodNamed B.named B.method).1, hO, hNw⟩
  rw [lg_entry_eq]
  have key := ih d M 0 (entry M av) [] mm r mmF hgo p l e (rmD d (mmF.2.1 - mm.2.1) (mmF.2.2 - mm.2.2)) s m (av.map (cv ad)).toArray below meth c (MQ below (Qg D dA ad mm r mmF A) (av.map (cv ad)).toArray s (mmF.2.1 - mm.2.1) (mmF.2.2 - mm.2.2) A) D dA A false (minf M).2.2.1 mm.2.1 mm.2.2 ad C hml (fun _ => rfl)
    ⟨Nat.le_refl _, Nat.le_refl _, by show mmF.2.1 ≤ mmF.2.1 - mm.2.1 + mm.2.1; omega, by show mmF.2.2 ≤ mmF.2.2 - mm.2.2 + mm.2.2; omega⟩ ?_
  · refine key s.heap [] _ 0 0 ⟨hP, hD, va_S.rf, hM, ent_LR hent, fun k v hv => ?_, (fun v hv => by cases hv), (by show 0 + mm.2.1 = mm.2.1; omega), (by show 0 + mm.2.2 = mm.2.2; omega), (fun h => by cases h)⟩
    have hv : nth (padL (entL av) (minf M).2.2.1) k none = some v := hv
    rw [padL_nth] at hv
    exact hav v (ent_at ad av k v hv).2
  · intro ad' pc lsc H locs cells slots hag hrf hP1 hD1 hS1 hM1 hc1 hs1
    have ec : cells = mmF.2.1 - mm.2.1 := by omega
    have es : slots = mmF.2.2 - mm.2.2 := by omega
    subst ec es
    have post : ∀ (v : Option Value), v = r.map (cv ad') → (∀ w, r = some w → okv mmF.2.1 false w) → ∀ t : State, t.heap = H → s.WarmedH t.vm → Qg D dA ad mm r mmF A (av.map (cv ad)).toArray s (.returned v) t := fun v hv hok t ht _ => ⟨⟨ad', by rw [hv], hag, by rw [ht]; exact hP1, hD1, hM1, hok⟩, hS1.F ht⟩
    rcases r with _ | x | x | y
    · exact W.vret B.exec B.bytes (hr.trans hrf.2) (post _ rfl (fun w h => by cases h)) hS1.2.2 hrf.1
    · obtain ⟨g1, g2, g3⟩ := hrf
      have hq := post (some (.int (Int32.ofInt x))) rfl (fun w h => by cases h; exact g2)
      rcases g3 with g3 | ⟨g3, g4⟩
      · exact W.iret B.exec B.bytes (hr.trans g3) hq hS1.2.2 g1
      · refine W.zret (ty := .boolean) B.exec B.bytes (hr.trans g3) ?_ hq hS1.2.2 g1
        rcases g4 with rfl | rfl <;> decide
    · obtain ⟨g1, g2, g3⟩ := hrf
      exact W.lret B.exec B.bytes (hr.trans g3) (post (some (.long (Int64.ofInt x))) rfl (fun w h => by cases h; exact g2)) hS1.2.2 g1
    · exact hrf.elim
section CG
variable {p : Program} {l : Launch} {e : Env} {R : Room} {s : State} {m : MethodId} {args : Array Value} {below : List Frame} {meth : Method} {c : Code} {H : Heap} {locs : List Loc} {cells slots : Nat} {Q : State → Prop}
variable {pc : Nat} {lsc : Array Slot} {rest st0 : List Value} {a : Array Value} {A0 A1 : Nat → Prop} {H0 : Heap} {mc ms : Nat} {free : Addr → Prop}
theorem callG {D : va_G} {dA : Nat → ClassId} {ad : AK → Nat} {mm mmF : AMem} {r : Option AV} (hr : va_Run p l e R s m args below meth c H locs cells slots mc ms (F0 m pc lsc st0) rest (Qg D dA ad mm r mmF A1 a) free) (hS : va_S A0 H0 H locs) (hA : ∀ q, q < H.size → A1 q → A0 q) (hf : ∀ q, free q → A0 q)
    (kk : ∀ (ad' : AK → Nat) (H1 : Heap) (locs1 : List Loc), (∀ j, j < mm.2.1 → ad' (nm j) = ad (nm j)) → va_P D vwCl (wl dA ad' mmF) H1 → va_D A1 (wl dA ad' mmF) → okM mmF → (∀ v, r = some v → okv mmF.2.1 false v) → va_S A0 H0 H1 locs1 → W p l e R s m args below meth c H1 locs1 (cells + mc) (slots + ms) Q (F0 m (pc + 3) lsc (r.toList.map (cv ad') ++ rest))) : W p l e R s m args below meth c H locs cells slots Q (F0 m pc lsc st0) := by
  intro T hT X
  obtain ⟨v, st₀, t, T', L, h0, X', hL, e1, e2, ⟨⟨ad', hv, hag, hP, hD, hM, hok⟩, hz, hk⟩, st⟩ := hr T hT X
  rw [h0] at hz hk
  have hv2 : v = r.map (cv ad') := by cases hv; rfl
  subst hv2
  obtain ⟨t2, a1, b1⟩ := kk ad' T'.heap (locs ++ L) hag (by rw [e1]; exact hP) hD hM hok
    ⟨Nat.le_trans hS.1 (by rw [e1]; exact hz), fun q h1 h2 => by rw [e1, hk q (Nat.lt_of_lt_of_le h1 hS.1) (fun z => h2 (hA q (Nat.lt_of_lt_of_le h1 hS.1) z))]; exact hS.2.1 q h1 h2, fun q hq => by
      rcases List.mem_append.mp hq with h | h
      · exact hS.2.2 q h
      · exact hf _ (hL q h)⟩ T' rfl X'
  have e3 : (r.map (cv ad')).toList ++ rest = r.toList.map (cv ad') ++ rest := by cases r <;> rfl
  refine ⟨t2, st t2 ?_, b1⟩
  rw [← e3] at a1
  exact a1
end CG
end
section
/-! A CALL, and the induction over all -/
theorem call_facts {kind M M' pc : Nat} {st : List AV} {mm : AMem} {o : ROut} (h : exCall kind M M' pc st mm = some o) :
    o = .inr (.inr (M', (st.take (minf M').2.2.2.2.1).reverse, st.drop (minf M').2.2.2.2.1, pc + 3)) ∧ (minf M').2.2.2.2.1 ≤ st.length ∧ (minf M').2.2.2.2.2.1 = kind ∧ (st.drop (minf M').2.2.2.2.1).length ≤ 4 ∧ (1 ≤ M ∨ (st.take (minf M').2.2.2.2.1).all noScr = true)
    ∧ (kind = 1 → recvOk mm (minf M').2.2.2.2.2.2 (st.take (minf M').2.2.2.2.1).getLast? = true) ∧ (entL (st.take (minf M').2.2.2.2.1).reverse).length ≤ (minf M').2.2.1 ∧ (kind = 2 → isRf (st.take (minf M').2.2.2.2.1).getLast? = true) := by
  unfold exCall at h
  obtain ⟨h1, h2⟩ := cond_some h
  simp only [Bool.and_eq_true, Bool.or_eq_true, Bool.not_eq_true'] at h1
  obtain ⟨⟨⟨⟨⟨⟨a1, a2⟩, a3⟩, a4⟩, a5⟩, a6⟩, a7⟩ := h1
  cases h2
  refine ⟨rfl, Nat.le_of_ble_eq_true a1, Nat.eq_of_beq_eq_true a2, Nat.le_of_ble_eq_true a3, a4.imp Nat.le_of_ble_eq_true id, fun hk => ?_, Nat.le_of_ble_eq_true a6, fun hk => ?_⟩
  · subst hk
    rcases a5 with a5 | a5
    · cases a5
    · exact a5
  · subst hk
    rcases a7 with a7 | a7
    · cases a7
    · exact a7
theorem wl_congr {dA : Nat → ClassId} {ad ad' : AK → Nat} {mm : AMem} (hM : okM mm) (hag : ∀ j, j < mm.2.1 → ad' (nm j) = ad (nm j)) : wl dA ad' mm = wl dA ad mm := by
  unfold wl
  apply List.map_congr_left
  intro j hj
  have hj := List.mem_range.mp hj
  rw [hag j hj, ce_congr hag (hM.2 j hj)]
theorem noScr_ok {N : Nat} {sg : Bool} {v : AV} (h : noScr v = true) (hv : okv N sg v) : okv N false v := by
  rcases v with x | x | (_ | k)
  · exact hv
  · exact hv
  · trivial
  · rcases hv with hv | ⟨-, hv⟩
    · exact Or.inl hv
    · subst hv
      simp [noScr] at h
section CS
variable {p : Program} {l : Launch} {e : Env} {R : Room} {s : State} {m : MethodId} {args : Array Value} {below : List Frame} {meth : Method} {c : Code} {Q : State → Prop} {D : va_G} {dA : Nat → ClassId} {A : Nat → Prop} {sg : Bool} {nL N0 S0 M : Nat} {ad : AK → Nat} {pc : Nat} {ls : ALs} {st : List AV} {mm : AMem} {nxt : Nat × ALs × List AV × AMem}
theorem sn_call (C : Cx p s m args meth c D dA A M) {q : INS} {n d' kind i : Nat} (ih : SND n) (hf : fetch M pc = some q) (hnL : c.maxLocals = nL) (hsg : 1 ≤ M → sg = false) {mmF mm1 : AMem} {r1 : Option AV} (hR : RM R (d' + 1) N0 S0 mmF)
    (hkind : (kind = 0 ∧ q.1 = .invokestatic i ∧ Nat.beq q.2.2.1 9999 = false ∧ Nat.beq q.2.2.1 9997 = false ∧ Nat.beq q.2.2.1 9996 = false) ∨ (kind = 1 ∧ q.1 = .invokevirtual i) ∨ (kind = 2 ∧ q.1 = .invokespecial i ∧ Nat.beq q.2.2.1 9998 = false))
    {M' : Nat} {av rest : List AV} {pc' : Nat} (he : exCall kind M q.2.2.1 pc st mm = some (.inr (.inr (M', av, rest, pc')))) (hgo : go n d' M' 0 (entry M' av) [] mm = some (r1, mm1)) (hle : mm1.2.1 ≤ mmF.2.1 ∧ mm1.2.2 ≤ mmF.2.2)
    (k : ∀ ad' : AK → Nat, (∀ j, j < mm.2.1 → ad' (nm j) = ad (nm j)) → ad' (99, 0) = ad (99, 0) → WG p l e R s m args below meth c Q D dA A sg nL N0 S0 ad' (pc', ls, r1.toList ++ rest, mm1)) : WG p l e R s m args below meth c Q D dA A sg nL N0 S0 ad (pc, ls, st, mm) := by
  obtain ⟨hd, hc⟩ := fetch_ok hf
  have hln := fetch_len hf
  obtain ⟨ins, len, a, b, z⟩ := q
  dsimp only at hd hln hkind he
  obtain ⟨e1, e2, e3, e4, e5, e6, e7, e8⟩ := call_facts he
  cases e1
  have hmo := go_mono hgo
  intro H locs lsc cells slots hr
  obtain ⟨hP, hD, hS, hM, hL, okl, oks, hcc, hss, hscr⟩ := id hr
  replace hcc : cells + N0 = mm.2.1 := hcc
  replace hss : slots + S0 = mm.2.2 := hss
  replace okl : ∀ k v, nth ls k none = some v → okv mm.2.1 sg v := okl
  replace oks : ∀ v ∈ st, okv mm.2.1 sg v := oks
  replace hM : okM mm := hM
  replace hP : va_P D vwCl (wl dA ad mm) H := hP
  replace hD : va_D A (wl dA ad mm) := hD
  replace hL : LR ad nL ls lsc := hL
  -- the arguments hold no script
  have hav : ∀ v ∈ (st.take (minf M').2.2.2.2.1).reverse, okv mm.2.1 false v := by
    intro v hv
    have hv := List.mem_reverse.mp hv
    have hv2 := oks v (List.mem_of_mem_take hv)
    rcases e5 with e5 | e5
    · rw [hsg e5] at hv2
      exact hv2
    · exact noScr_ok (List.all_eq_true.mp e5 v hv) hv2
  -- the callee's number and words
  have hMM : 0 < M' ∧ M' < NM := by
    rcases hkind with ⟨rfl, rfl, q1, q2, q3⟩ | ⟨rfl, rfl⟩ | ⟨rfl, rfl, q1⟩
    · simp only [chkA, q1, q2, q3, cond, Bool.and_eq_true] at hc
      exact ⟨Nat.le_of_ble_eq_true hc.1.1, Nat.le_of_ble_eq_true hc.1.2⟩
    · simp only [chkA, Bool.and_eq_true] at hc
      exact ⟨Nat.le_of_ble_eq_true hc.1.1, Nat.le_of_ble_eq_true hc.1.2⟩
    · simp only [chkA, q1, cond, Bool.and_eq_true] at hc
      exact ⟨Nat.le_of_ble_eq_true hc.1.1, Nat.le_of_ble_eq_true hc.1.2⟩
  obtain ⟨hcode, hN⟩ := cm_all hMM.1 hMM.2
  unfold chkN at hN
  simp only [Bool.and_eq_true, decide_eq_true_eq] at hN
  obtain ⟨⟨⟨⟨⟨⟨w1, w2⟩, w3⟩, w4⟩, w5⟩, w6⟩, w7⟩ := hN
  have w6 := Nat.le_of_ble_eq_true w6
  have hts := C.2.2.2.2.1
  have hGood : GoodIn gw (wsM M') := by
    intro w hw
    rcases List.mem_cons.mp hw with rfl | hw
    · exact ⟨List.mem_filter.mpr ⟨List.mem_of_getElem? hcode, rfl⟩, Or.inl rfl⟩
    · exact ⟨hw, wsM_good w hw⟩
  have hMet := met_ok ih hgo hMM.1 hMM.2 hav hM e7 l D dA ad H.size
  have hfr : (rmD d' (mm1.2.1 - mm.2.1) (mm1.2.2 - mm.2.2)).frames + 1 ≤ R.frames ∧ 8 + ((minf M').2.2.1 + 11) + (rmD d' (mm1.2.1 - mm.2.1) (mm1.2.2 - mm.2.2)).locals ≤ R.locals := by
    obtain ⟨r1, r2, -, -⟩ := hR
    exact ⟨r1, by show 8 + ((minf M').2.2.1 + 11) + 100 * (d' + 1) ≤ R.locals; omega⟩
  have hroom : cells + (mm1.2.1 - mm.2.1) ≤ R.cells ∧ slots + (mm1.2.2 - mm.2.2) ≤ R.slots := by
    obtain ⟨-, -, r3, r4⟩ := hR
    have g1 := hmo.1.1
    have g2 := hmo.1.2
    exact ⟨by omega, by omega⟩
  have hPre : ∀ U : State, U.heap = H → s.WarmedH U.vm → Pcc D dA ad mm ((st.take (minf M').2.2.2.2.1).reverse) H.size (((st.take (minf M').2.2.2.2.1).reverse).map (cv ad)).toArray U := by
    intro U hU hW
    refine ⟨rfl, by rw [hU], by rw [hU]; exact hP, va_K.moved hW.alike C.2.2.2.2.2.1, hD.weaken (fun _ _ _ _ => trivial), ⟨C.2.2.2.2.2.2.2.2.1.1.moved hW.alike, C.2.2.2.2.2.2.2.2.1.2.moved hW.alike⟩, fun w hw => ?_⟩
    have h9 := C.2.2.2.2.2.2.2.2.2 w hw
    obtain ⟨_, _, _, _, rfl⟩ := nw_form hw
    exact va_Nw.warmM hW h9
  have hFix : CallFix p m c (minf M).2.1 nL s args gw (minf M).1.cls := ⟨C.1, C.2.1, hnL, C.2.2.2.1, hts⟩
  have hFree : ∀ q, va_A (wl dA ad mm) H.size q → A q := by
    intro q hq
    rcases hq with ⟨j, e0, hj⟩ | hq
    · exact hD.2 j _ hj
    · exact C.2.2.2.2.2.2.1 q (Nat.le_trans hS.1 hq)
  have hstk : st.map (cv ad) = (((st.take (minf M').2.2.2.2.1).reverse).map (cv ad)).reverse ++ (st.drop (minf M').2.2.2.2.1).map (cv ad) := by
    rw [List.map_reverse, List.reverse_reverse, ← List.map_append, List.take_append_drop]
  have hcat : (((st.drop (minf M').2.2.2.2.1).map (cv ad)).map fun v => v.category).sum ≤ 8 := by
    have := cat_le ad (st.drop (minf M').2.2.2.2.1)
    omega
  have hlenA : ((st.take (minf M').2.2.2.2.1).reverse).length = (minf M').2.2.2.2.1 := by
    rw [List.length_reverse, List.length_take]
    omega
  -- behind the call
  have after : ∀ (ad' : AK → Nat) (H1 : Heap) (locs1 : List Loc), (∀ j, j < mm.2.1 → ad' (nm j) = ad (nm j)) → va_P D vwCl (wl dA ad' mm1) H1 → va_D (va_A (wl dA ad mm) H.size) (wl dA ad' mm1) → okM mm1 → (∀ v, r1 = some v → okv mm1.2.1 false v) → va_S A s.heap H1 locs1 → W p l e R s m args below meth c H1 locs1 (cells + (mm1.2.1 - mm.2.1)) (slots + (mm1.2.2 - mm.2.2)) Q (F0 m (pc + 3) lsc (r1.toList.map (cv ad') ++ (st.drop (minf M').2.2.2.2.1).map (cv ad))) := by
    intro ad' H1 locs1 hag hP1 hD1 hM1 hok1 hS1
    have hag2 : ∀ j, j < mm1.2.1 → adU ad' (99, 0) (ad (99, 0)) (nm j) = ad' (nm j) := by
      intro j hj
      have : nm j ≠ (99, 0) := nm_99 (Nat.lt_of_lt_of_le hj hM1.1)
      simp [adU, this]
    have h99 : adU ad' (99, 0) (ad (99, 0)) (99, 0) = ad (99, 0) := by simp [adU]
    have hag3 : ∀ j, j < mm.2.1 → adU ad' (99, 0) (ad (99, 0)) (nm j) = ad (nm j) := fun j hj => (hag2 j (Nat.lt_of_lt_of_le hj hmo.1.1)).trans (hag j hj)
    have k2 := k (adU ad' (99, 0) (ad (99, 0))) hag3 h99 H1 locs1 lsc (cells + (mm1.2.1 - mm.2.1)) (slots + (mm1.2.2 - mm.2.2))
      ⟨by rw [wl_congr hM1 hag2]; exact hP1, by rw [wl_congr hM1 hag2]; exact hD1.weaken (fun _ q _ h => hFree _ h), hS1, hM1,
        ⟨hL.1, hL.2.1, hL.2.2.1, fun k v hv => by rw [hL.2.2.2 k v hv, cv_congr2 hag3 h99 (okl k v hv)]⟩,
        fun k v hv => okv_mono hmo.1.1 (okl k v hv),
        fun v hv => by
          rcases List.mem_append.mp hv with hv | hv
          · cases r1 with
            | none => cases hv
            | some w =>
              have : v = w := by simpa using hv
              subst this
              exact okv_true (hok1 v rfl)
          · exact okv_mono hmo.1.1 (oks v (List.mem_of_mem_drop hv)),
        by have g1 := hmo.1.1; show cells + (mm1.2.1 - mm.2.1) + N0 = mm1.2.1; omega,
        by have g2 := hmo.1.2; show slots + (mm1.2.2 - mm.2.2) + S0 = mm1.2.2; omega,
        fun hs => by
          obtain ⟨b0, L, xs, g1, g2, g3, g4, g5, g6⟩ := hscr hs
          exact ⟨b0, L, xs, g1, g2, g3, h99.trans g4, g5, hmo.2 _ _ g6⟩⟩
    have e9 : (r1.toList ++ st.drop (minf M').2.2.2.2.1).map (cv (adU ad' (99, 0) (ad (99, 0)))) = r1.toList.map (cv ad') ++ (st.drop (minf M').2.2.2.2.1).map (cv ad) := by
      rw [List.map_append]
      congr 1
      · cases r1 with
        | none => rfl
        | some w =>
          show [_] = [_]
          rw [cv_congr hag2 (hok1 w rfl)]
      · exact List.map_congr_left (fun v hv => cv_congr2 hag3 h99 (oks v (List.mem_of_mem_drop hv)))
    dsimp only at k2
    rw [e9] at k2
    exact k2
  show W p l e R s m args below meth c H locs cells slots Q (F0 m pc lsc (st.map (cv ad)))
  rw [hstk]
  rcases hkind with ⟨rfl, rfl, q1, q2, q3⟩ | ⟨rfl, rfl⟩ | ⟨rfl, rfl, q1⟩
  · replace hln : len = 3 := hln.resolve_left (show ¬ (3 : Nat) = 0 by decide)
    subst hln
    simp only [chkA, q1, q2, q3, cond, Bool.and_eq_true] at hc
    rw [e3] at w2 w5
    refine callG (va_runS hFix hMet ⟨callB_of (minf M').2.2.2.2.1 hts hGood rfl rfl rfl (w_at hts w1 rfl) (w_at hts hc.2 rfl) ⟨w3, w4, by simpa using w5⟩ hfr, w_at hts w2 rfl⟩ ⟨Pcc_blind _ _ _ _ _ _, hPre⟩ rfl (by rw [List.length_map]; exact hlenA) hL.1 rfl (lv_room hcat) hd hroom) hS (fun q _ h => hFree q h) hFree after
  · replace hln : len = 3 := hln.resolve_left (show ¬ (3 : Nat) = 0 by decide)
    subst hln
    simp only [chkA, Bool.and_eq_true] at hc
    rw [e3] at w2 w5
    try dsimp only at w2 w5
    simp only [Bool.and_eq_true, decide_eq_true_eq] at w2
    obtain ⟨⟨⟨x1, x2⟩, x3⟩, x4⟩ := w2
    -- the receiver
    have hrec := e6 rfl
    cases hlast : (st.take (minf M').2.2.2.2.1).getLast? with
    | none => rw [hlast] at hrec; simp [recvOk] at hrec
    | some v0 =>
      rw [hlast] at hrec
      unfold recvOk at hrec
      split at hrec
      next k0 hk0 =>
        split at hrec
        next c' f' hm' =>
          have hcc' := Nat.eq_of_beq_eq_true hrec
          cases hk0
          obtain ⟨t0, ht0⟩ := List.getLast?_eq_some_iff.mp hlast
          have hrev : (st.take (minf M').2.2.2.2.1).reverse = .inr (.inr (some k0)) :: t0.reverse := by rw [ht0]; simp
          rw [hrev] at hPre hMet hlenA hav ⊢
          obtain ⟨j, hj, hjk⟩ := hr.key (okv_true (hav _ List.mem_cons_self)) (fun L g q => by rw [hm'] at q; cases q)
          have hget : (wl dA ad mm)[j]? = some (ad k0, .inr (c', (List.range (clK c')).map (fun k => cv ad (f' k)))) := wl_get2 hj hjk hm'
          have hcl : vwCl[c']? = some (clR c', clT c', clK c') := vw_at (by rw [hcc']; exact Nat.lt_succ_of_le (Nat.le_of_ble_eq_true x3))
          have hrv := va_recv C.2.2.2.2.2.1 hP hcl hget
          rw [hcc', x4] at hrv
          have hlen2 : (t0.reverse.map (cv ad)).length = (minf M').2.2.2.2.1 - 1 := by
            rw [List.length_map]
            simp only [List.length_cons] at hlenA
            omega
          refine callG (va_runV (C := (minf M').1.cls) (As := t0.reverse.map (cv ad)) (rest := (st.drop (minf M').2.2.2.2.1).map (cv ad)) hFix hMet ⟨callB_of ((minf M').2.2.2.2.1 - 1) hts hGood rfl rfl rfl (w_at hts w1 rfl) (w_at hts hc.2 rfl) ⟨w3, w4, by simpa using w5⟩ hfr, w_at hts x1 rfl, w_at hts x2 rfl⟩ ⟨Pcc_blind _ _ _ _ _ _, hrv, hPre⟩ rfl hlen2 hL.1 ?_ (lv_room hcat) hd hroom) hS (fun q _ h => hFree q h) hFree after
          show _ = _
          simp [cv]
        next => cases hrec
      next => cases hrec
  · replace hln : len = 3 := hln.resolve_left (show ¬ (3 : Nat) = 0 by decide)
    subst hln
    simp only [chkA, q1, cond, Bool.and_eq_true, Bool.or_eq_true] at hc
    rw [e3] at w2 w5
    try dsimp only at w2 w5
    simp only [Bool.and_eq_true, decide_eq_true_eq] at w2
    obtain ⟨⟨x1, x2⟩, x3⟩ := w2
    -- the first argument is a reference
    have hfirst : ∃ k0 t0, (st.take (minf M').2.2.2.2.1).reverse = .inr (.inr (some k0)) :: t0 := by
      have h8 := e8 rfl
      cases hlast : (st.take (minf M').2.2.2.2.1).getLast? with
      | none => rw [hlast] at h8; cases h8
      | some v0 =>
        rw [hlast] at h8
        obtain ⟨t0, ht0⟩ := List.getLast?_eq_some_iff.mp hlast
        rcases v0 with x | x | (_ | k0)
        · cases h8
        · cases h8
        · cases h8
        · exact ⟨k0, t0.reverse, by rw [ht0]; simp⟩
    obtain ⟨k0, t0, hrev⟩ := hfirst
    rw [hrev] at hPre hMet hlenA hav ⊢
    have hlen2 : (t0.map (cv ad)).length = (minf M').2.2.2.2.1 - 1 := by
      rw [List.length_map]
      simp only [List.length_cons] at hlenA
      omega
    rw [x3] at hcode
    rcases hc.2 with hc2 | hc2
    · refine callG (va_runI (As := t0.map (cv ad)) (rest := (st.drop (minf M').2.2.2.2.1).map (cv ad)) (b := ad k0) hFix hMet ⟨callB_of ((minf M').2.2.2.2.1 - 1) hts hGood (by rw [wsM, x3]) rfl rfl (w_at hts w1 rfl) (w_at hts hc2 rfl) ⟨w3, w4, by simpa using w5⟩ hfr, x2, w_at hts x1 rfl⟩ ⟨Pcc_blind _ _ _ _ _ _, hPre⟩ rfl hlen2 hL.1 ?_ (lv_room hcat) hd hroom) hS (fun q _ h => hFree q h) hFree after
      show _ = _
      simp [cv]
    · have hnw : Cond.methodLinkNest (minf M).1.cls i (minf M').1 "FerryChange" ∈ nw := List.mem_filter.mpr ⟨List.mem_of_getElem? (of_decide_eq_true hc2), rfl⟩
      refine callG (va_runIN (As := t0.map (cv ad)) (rest := (st.drop (minf M').2.2.2.2.1).map (cv ad)) (b := ad k0) hFix hMet ⟨va_cnB ((minf M').2.2.2.2.1 - 1) hts hGood (by rw [wsM, x3]) rfl rfl (C.2.2.2.2.2.2.2.2.2 _ hnw) (w_at hts w1 rfl) ⟨w3, w4, by simpa using w5⟩ hfr, x2, w_at hts x1 rfl⟩ ⟨Pcc_blind _ _ _ _ _ _, hPre⟩ rfl hlen2 hL.1 ?_ (lv_room hcat) hd hroom) hS (fun q _ h => hFree q h) hFree after
      show _ = _
      simp [cv]
end CS
end
section
theorem Fin.next {p : Program} {l : Launch} {e : Env} {R : Room} {s : State} {m : MethodId} {args : Array Value} {below : List Frame} {meth : Method} {c : Code} {Q : State → Prop} {D : va_G} {dA : Nat → ClassId} {A : Nat → Prop} {N0 S0 M N N' : Nat} {ad ad' : AK → Nat} {r : Option AV} {mmF : AMem} (h : Fin p l e R s m args below meth c Q D dA A N0 S0 M N ad r mmF) (hN : N ≤ N') (hag : ∀ j, j < N → ad' (nm j) = ad (nm j)) : Fin p l e R s m args below meth c Q D dA A N0 S0 M N' ad' r mmF :=
  fun ad2 pc lsc H locs cells slots hag2 => h ad2 pc lsc H locs cells slots (fun j hj => (hag2 j (Nat.lt_of_lt_of_le hj hN)).trans (hag j hj))
theorem snd_all : ∀ n, SND n := by
  intro n
  induction n with
  | zero =>
    intro d M pc ls st mm r mmF h
    simp [go] at h
  | succ n ih =>
    intro d M pc ls st mm r mmF h p l e R s m args below meth c Q D dA A sg nL N0 S0 ad C hnL hsg hR hfin
    simp only [go] at h
    split at h
    next => cases h
    next q hq =>
      split at h
      next => cases h
      next pc' ls' st' mm' he =>
        have hmo := (go_mono h).1
        have hMo : mm.2.1 ≤ mm'.2.1 ∧ mm.2.2 ≤ mm'.2.2 := by
          rcases ex_inv he with ⟨nxt, e1, e2, e3⟩ | ⟨kind, i, -, e1⟩ | ⟨-, x, -, e1, -⟩ | ⟨-, x, -, e1⟩ | ⟨-, -, e1⟩
          · cases e1
            exact e2
          · exact (call_inl e1).elim
          · cases e1
          · cases e1
          · cases e1
        obtain ⟨r1, r2, r3, r4⟩ := id hR
        refine step_ok C hq hnL hsg ⟨by omega, by omega⟩ ⟨by omega, by omega⟩ ⟨by show mm'.2.1 ≤ _; omega, by show mm'.2.2 ≤ _; omega⟩ he (fun ad' hag h99 => ?_)
        exact ih d M pc' ls' st' mm' r mmF h p l e R s m args below meth c Q D dA A sg nL N0 S0 ad' C hnL hsg hR (hfin.next hMo.1 hag)
      next r' he =>
        cases h
        obtain ⟨hd, hc⟩ := fetch_ok hq
        have hln := fetch_len hq
        intro H locs lsc cells slots hr
        rcases ex_inv he with ⟨nxt, e1, -⟩ | ⟨kind, i, -, e1⟩ | ⟨e0, x, e2, e1, e3⟩ | ⟨e0, x, e2, e1⟩ | ⟨e0, e2, e1⟩
        · cases e1
        · have := (call_facts e1).1
          cases this
        · cases e1
          subst e2
          rw [e0] at hln hd
          replace hln : q.2.1 = 1 := hln.resolve_left (show ¬ (1 : Nat) = 0 by decide)
          rw [hln] at hd
          unfold chkA at hc
          rw [e0] at hc
          simp only [Bool.or_eq_true, Bool.and_eq_true, decide_eq_true_eq] at hc
          have hx : i32 x := ok_hd hr.oks
          refine hfin ad pc lsc H locs cells slots (fun _ _ => rfl) ⟨hd, hx, ?_⟩ hr.1 hr.2.1 hr.2.2.1 hr.2.2.2.1 hr.2.2.2.2.2.2.2.1 hr.2.2.2.2.2.2.2.2.1
          rcases hc with ⟨g1, g2⟩ | ⟨g1, g2⟩
          · exact Or.inl g2
          · refine Or.inr ⟨g2, ?_⟩
            rcases e3 with e3 | e3
            · have z1 := Nat.eq_of_beq_eq_true g1
              have z0 := Nat.eq_of_beq_eq_true e3
              omega
            · exact e3
        · cases e1
          subst e2
          rw [e0] at hln hd
          replace hln : q.2.1 = 1 := hln.resolve_left (show ¬ (1 : Nat) = 0 by decide)
          rw [hln] at hd
          unfold chkA at hc
          rw [e0] at hc
          have hx : i64 x := ok_hd hr.oks
          exact hfin ad pc lsc H locs cells slots (fun _ _ => rfl) ⟨hd, hx, of_decide_eq_true hc⟩ hr.1 hr.2.1 hr.2.2.1 hr.2.2.2.1 hr.2.2.2.2.2.2.2.1 hr.2.2.2.2.2.2.2.2.1
        · cases e1
          subst e2
          rw [e0] at hln hd
          replace hln : q.2.1 = 1 := hln.resolve_left (show ¬ (1 : Nat) = 0 by decide)
          rw [hln] at hd
          unfold chkA at hc
          rw [e0] at hc
          exact hfin ad pc lsc H locs cells slots (fun _ _ => rfl) ⟨hd, of_decide_eq_true hc⟩ hr.1 hr.2.1 hr.2.2.1 hr.2.2.2.1 hr.2.2.2.2.2.2.2.1 hr.2.2.2.2.2.2.2.2.1
      next M' av rest pc' he =>
        split at h
        next => cases h
        next d' =>
          split at h
          next => cases h
          next r1 mm1 h1 =>
            have g1 := (go_mono h1).1
            have g2 := (go_mono h).1
            rcases ex_inv he with ⟨nxt, e1, -⟩ | ⟨kind, i, hk, e1⟩ | ⟨-, x, -, e1, -⟩ | ⟨-, x, -, e1⟩ | ⟨-, -, e1⟩
            · cases e1
            · refine sn_call C ih hq hnL hsg hR hk e1 h1 g2 (fun ad' hag h99 => ?_)
              exact ih (d' + 1) M pc' ls (r1.toList ++ rest) mm1 r mmF h p l e R s m args below meth c Q D dA A sg nL N0 S0 ad' C hnL hsg hR (hfin.next g1.1 hag)
            · cases e1
            · cases e1
            · cases e1
end
section
/-! THE CLAIM OUT OF ONE WALK OF THE LAW'S BODY. Your part is whole_start (and what it stands on); all else here is the same for every law, but numbers. -/
def R_law : String := "FerryChangeLaw"
def lw_P (b : Addr) (xs : List Int32) (args : Array Value) (s : State) : Prop := args = #[.ref b] ∧ s.IntsAt b xs ∧ xs.length ≤ 3072 ∧ (Jvm.Cond.and given_1 narrow_1).before args s = true
def lw_Q (_ : Array Value) (s : State) (o : Outcome) (t : State) : Prop := o = .returned (some (.int 1)) ∧ Framed s o t [] 600000 7302250
def lw_Z (below : List Frame) (a : Array Value) (s : State) : State → Prop := fun t => ∃ o, t.status = .running ∧ Ended t below o ∧ lw_Q a s o t
/-- the law's own end, with 1 on the stack, nothing written that was there before, its room as the claim has it -/
theorem lw_ret {p : Program} {l : Launch} {e : Env} {s : State} {m : MethodId} {below : List Frame} {meth : Method} {c : Code} {b : Nat} (hx : p.tables.exec = Jvm.exec) (hb : c.code = code) (hr : meth.sig.returnType = ret) (hlocks : meth.locks = false) {pc : Nat} {H : Heap} {ls : Array Slot} (hdg : decode code pc = .ok (.ireturn, 1)) : W p l e room_1 s m #[Value.ref b] below meth c H [] 600000 7302250 (lw_Z below #[Value.ref b] s) (F0 m pc ls [.int 1]) := by
  intro T hT X
  obtain ⟨fs, hret, hrun, hended, hW, hframe⟩ := X.leave (v := some (.int 1)) (hlocks := hlocks) (fun h => by rw [hr] at h; cases h)
  have hmeth' : T.vm.method? m = some meth := X.method'
  refine ⟨T.setFrames fs, ?_, .returned (some (.int 1)), hrun, hended, rfl, ⟨_, rfl⟩, hW, hframe⟩
  jvm_step X.here [X.here.top, hx, hb, hdg, hmeth', hr, ret, narrow_b1]
  (try refine ⟨rfl, ?_⟩); (try refine ⟨rfl, ?_⟩)
  first | (intro acts; rw [hret _ acts rfl rfl rfl]) | rw [hret _ _ rfl rfl rfl]
  exact Steps.refl _
/-- what holds at the law's entry: the machine, the code, the tables' words (any of lw_tbl by 'hts w (by decide +kernel)'), the script of L ints xs at the cell b, what the Statement gives of the start (any of its parts by flat_of_before) -/
def lw_At (p : Program) (s : State) (m : MethodId) (meth : Method) (c : Code) (b L : Nat) (xs : Nat → Int32) : Prop :=
  p.tables.exec = Jvm.exec ∧ c.code = code ∧ meth.sig.returnType = ret ∧ c.maxLocals = 4 ∧ s.vm.findClass R_law = some m.cls ∧ (∀ w ∈ lw_tbl, w.before #[Value.ref b] s = true) ∧ va_X b L xs s s.heap ∧ b < s.heap.size ∧ meth.locks = false ∧ (Jvm.Cond.and given_1 narrow_1).before #[Value.ref b] s = true
/-! THE LAW out of a run of the abstract machine -/
def mm0 (L : Nat) (xs : Nat → Int) : AMem := (fun k => if k = (99, 0) then .inl (4, L, xs) else .inr (.inr (0, fun _ => vi 0)), 0, 0)
/-- what is left to show, of the abstract machine alone -/
def PureLaw : Prop := ∀ (L : Nat) (xs : Nat → Int), L ≤ 3072 → (∀ j, i32 (xs j)) → ∃ (n : Nat) (mmF : AMem), go n 800 0 0 [some (vr 99 0), none, none, none] [] (mm0 L xs) = some (some (vi 1), mmF) ∧ mmF.2.1 ≤ 600000 ∧ mmF.2.2 ≤ 7302250
theorem arr_known {s : State} {args : Array Value} {ty : FieldType} (h : (Cond.arrayClass ty).before args s = true) (hp : ty = .int ∨ ty = .boolean) : ∃ cA, ArrOfT s cA ty ∧ va_RA s cA ty := by
  obtain ⟨cA, kA, comp, h1, h2, h3⟩ := Cond.arrayClass_spec h
  refine ⟨cA, fun n z => ⟨fun k h => (by cases h), kA, h2, comp, h3⟩, ?_⟩
  rcases hp with rfl | rfl
  · exact h1
  · exact h1
theorem arr_over {s : State} {args : Array Value} {C : String} (h : (Cond.arrayOver (.object C)).before args s = true) : ∃ cA, ArrOfT s cA (.object C) ∧ va_RA s cA (.object C) := by
  obtain ⟨comp, cA, kA, h1, -, h2, h3, h4⟩ := Cond.arrayOver_spec h
  exact ⟨cA, fun n z => ⟨fun k h => (by cases h), kA, h2, comp, h3⟩, kA, comp, h2, h3, h1, h4⟩
theorem ovB : (eqW plArr.2.2.1 (.arrayOver (.object "FerryChange$Ferry")) && eqW plArr.2.2.2 (.arrayOver (.object "FerryChange$Row"))) = true := by decide +kernel
theorem whole_of (hp : PureLaw) {p : Program} {e : Env} {s : State} {m : MethodId} {below : List Frame} {meth : Method} {c : Code} (l : Launch) {b L : Nat} {xs : Nat → Int32} (hL : L ≤ 3072) (C0 : lw_At p s m meth c b L xs) (hname : meth.name = "law") : W p l e room_1 s m #[Value.ref b] below meth c s.heap [] 0 0 (lw_Z below #[Value.ref b] s) (entryFrame m ([Value.ref b] : List Value).toArray 4) := by
  obtain ⟨hx, hb, hr, hml, hown, hts, hX, hbl, hlocks, hgv⟩ := C0
  have hg : ∀ w ∈ gw, w.before #[Value.ref b] s = true := fun w hw => hts w (List.mem_filter.mp hw).1
  have hins : ∀ a, a < 5 → ∃ (cC : ClassId) (iS : Nat → Nat), u_Kn s (clR a) (clT a) (clK a) cC iS := by
    intro a ha
    have h1 := List.all_eq_true.mp insB a (List.mem_range.mpr ha)
    rw [Bool.and_eq_true] at h1
    exact u_known hg (uw_in ha) (w_at hg h1.1 rfl)
  obtain ⟨c0, i0, k0⟩ := hins 0 (by decide)
  obtain ⟨c1, i1, k1⟩ := hins 1 (by decide)
  obtain ⟨c2, i2, k2⟩ := hins 2 (by decide)
  obtain ⟨c3, i3, k3⟩ := hins 3 (by decide)
  obtain ⟨c4, i4, k4⟩ := hins 4 (by decide)
  have hab := arrB
  simp only [Bool.and_eq_true] at hab
  have hov := ovB
  simp only [Bool.and_eq_true] at hov
  obtain ⟨a0, a0o, a0r⟩ := arr_known (w_at hg hab.1 rfl) (Or.inl rfl)
  obtain ⟨a1, a1o, a1r⟩ := arr_known (w_at hg hab.2 rfl) (Or.inr rfl)
  have ho2 : (Cond.arrayOver (.object "FerryChange$Ferry")).before #[Value.ref b] s = true := hts _ (List.mem_of_getElem? (of_decide_eq_true hov.1))
  have ho3 : (Cond.arrayOver (.object "FerryChange$Row")).before #[Value.ref b] s = true := hts _ (List.mem_of_getElem? (of_decide_eq_true hov.2))
  obtain ⟨a2, a2o, a2r⟩ := arr_over ho2
  obtain ⟨a3, a3o, a3r⟩ := arr_over ho3
  obtain ⟨D, hD1⟩ : ∃ D : va_G, ∀ (k : Nat) (q : vw_C), vwCl[k]? = some q → u_Kn s q.1 q.2.1 q.2.2 (D.1 k) (D.2 k) := by
    refine ⟨(fun k => match k with | 0 => c0 | 1 => c1 | 2 => c2 | 3 => c3 | _ => c4, fun k => match k with | 0 => i0 | 1 => i1 | 2 => i2 | 3 => i3 | _ => i4), ?_⟩
    intro k q hq
    match k, hq with
    | 0, hq => cases hq; exact k0
    | 1, hq => cases hq; exact k1
    | 2, hq => cases hq; exact k2
    | 3, hq => cases hq; exact k3
    | 4, hq => cases hq; exact k4
    | k + 5, hq => simp [vwCl] at hq
  obtain ⟨dA, d0, d1, d2, d3⟩ : ∃ dA : Nat → ClassId, dA 0 = a0 ∧ dA 1 = a1 ∧ dA 2 = a2 ∧ dA 3 = a3 := ⟨fun k => match k with | 0 => a0 | 1 => a1 | 2 => a2 | _ => a3, rfl, rfl, rfl, rfl⟩
  have hK : va_K D vwCl (tyA dA) s := by
    refine ⟨hD1, fun k q hq => ?_⟩
    match k, hq with
    | 0, hq => cases hq; rw [d0]; exact ⟨a0o, a0r⟩
    | 1, hq => cases hq; rw [d1]; exact ⟨a1o, a1r⟩
    | 2, hq => cases hq; rw [d2]; exact ⟨a2o, a2r⟩
    | 3, hq => cases hq; rw [d3]; exact ⟨a3o, a3r⟩
    | k + 4, hq => simp [tyA] at hq
  have C : Cx p s m #[Value.ref b] meth c D dA (fun q : Nat => s.heap.size ≤ q) 0 := by
    refine ⟨hx, hb, hml, hown, hg, hK, fun _ h => h, hname, ⟨va_AO.of ho2, va_AO.of ho3⟩, fun w hw => ?_⟩
    obtain ⟨_, _, _, _, hwf⟩ := nw_form hw
    have hw2 := hts w (List.mem_filter.mp hw).1
    subst hwf
    exact va_Nw.of rfl hw2
  obtain ⟨n, mmF, hgo, hcl, hsl⟩ := hp L (fun j => (xs j).toInt) hL (fun j => i32_of _)
  have key := snd_all n 800 0 0 [some (vr 99 0), none, none, none] [] (mm0 L (fun j => (xs j).toInt)) (some (vi 1)) mmF hgo p l e room_1 s m #[Value.ref b] below meth c (lw_Z below #[Value.ref b] s) D dA (fun q : Nat => s.heap.size ≤ q) true 4 0 0 (fun _ => b) C hml (fun h => absurd h (by decide))
    ⟨by show 801 ≤ 2048; decide, by show 80100 ≤ 84000; decide, by show mmF.2.1 ≤ 600000 + 0; omega, by show mmF.2.2 ≤ 7302250 + 0; omega⟩ ?_
  · rw [lg_entry_eq]
    refine key s.heap [] _ 0 0 ⟨fun k q h => by simp [wl, mm0] at h, ⟨fun i j p q h => by simp [wl, mm0] at h, fun k q h => by simp [wl, mm0] at h⟩, va_S.rf, ⟨Nat.zero_le _, fun j hj => absurd hj (Nat.not_lt_zero _)⟩, ?_, fun k v hv => ?_, (fun v hv => by cases hv), rfl, rfl, fun _ => ?_⟩
    · exact ent_LR (ad := fun _ => b) (av := [vr 99 0]) (n := 4) (by decide)
    · match k, hv with
      | 0, hv => cases hv; exact Or.inr ⟨rfl, rfl⟩
      | 1, hv => cases hv
      | 2, hv => cases hv
      | 3, hv => cases hv
      | k + 4, hv =>
        have : nth ([] : ALs) k none = some v := hv
        rw [nth_nil] at this
        cases this
    · exact ⟨b, L, xs, hX, hbl, Nat.not_le.mpr hbl, rfl, by omega, by simp [mm0]⟩
  · intro ad' pc lsc H locs cells slots hag hrf hP1 hD2 hS1 hM1 hc1 hs1
    refine va_forget (fun q hq => hS1.2.2 q hq) ?_
    have h81 : NTOT = 81 := rfl
    have hm1 := hM1.1
    refine W.widen (k := 600000) (n := 7302250) (by omega) (by omega) ?_
    exact lw_ret hx hb hr hlocks hrf.1
end
section
/-! RUNS, as a predicate over what they come to; one rule a kind of step -/
theorem go_fuel : ∀ {n k d M pc : Nat} {ls : ALs} {st : List AV} {mm : AMem} {o : Option AV × AMem}, go n d M pc ls st mm = some o → n ≤ k → go k d M pc ls st mm = some o
  | 0, _, _, _, _, _, _, _, _, h, _ => by simp [go] at h
  | n + 1, 0, _, _, _, _, _, _, _, _, hk => absurd hk (by omega)
  | n + 1, k + 1, d, M, pc, ls, st, mm, o, h, hk => by
    simp only [go] at h ⊢
    split at h
    next => cases h
    next q hq =>
      split at h
      next => cases h
      next pc' ls' st' mm' he => exact go_fuel h (by omega)
      next r' he => exact h
      next M' av rest pc' he =>
        split at h
        next => cases h
        next d' =>
          split at h
          next => cases h
          next r1 mm1 h1 =>
            rw [go_fuel h1 (show n ≤ k by omega)]
            exact go_fuel h (by omega)
def X (d M pc : Nat) (ls : ALs) (st : List AV) (mm : AMem) (Q : Option AV → AMem → Prop) : Prop := ∃ (n : Nat) (r : Option AV) (mm' : AMem), go n d M pc ls st mm = some (r, mm') ∧ Q r mm'
noncomputable def stp (M : Nat) : Nat → (Nat × ALs × List AV × AMem) → Option (Nat × ALs × List AV × AMem)
  | 0, s => some s
  | n + 1, s => match fetch M s.1 with
    | none => none
    | some q => match ex M s.1 s.2.1 s.2.2.1 s.2.2.2 q with
      | some (.inl s') => stp M n s'
      | _ => none
section XR
variable {d M pc : Nat} {ls : ALs} {st : List AV} {mm : AMem} {Q : Option AV → AMem → Prop}
theorem x_one {q : INS} {s : Nat × ALs × List AV × AMem} (hf : fetch M pc = some q) (he : ex M pc ls st mm q = some (.inl s)) : X d M pc ls st mm Q ↔ X d M s.1 s.2.1 s.2.2.1 s.2.2.2 Q := by
  constructor
  · rintro ⟨n, r, mm', h, hQ⟩
    cases n with
    | zero => simp [go] at h
    | succ n =>
      simp only [go, hf, he] at h
      exact ⟨n, r, mm', h, hQ⟩
  · rintro ⟨n, r, mm', h, hQ⟩
    refine ⟨n + 1, r, mm', ?_, hQ⟩
    simp only [go, hf, he]
    exact h
theorem x_run : ∀ (k : Nat) {pc : Nat} {ls : ALs} {st : List AV} {mm : AMem} {pc' : Nat} {ls' : ALs} {st' : List AV} {mm' : AMem}, stp M k (pc, ls, st, mm) = some (pc', ls', st', mm') → (X d M pc ls st mm Q ↔ X d M pc' ls' st' mm' Q)
  | 0, _, _, _, _, _, _, _, _, h => by
    simp only [stp] at h
    cases h
    exact Iff.rfl
  | k + 1, pc, ls, st, mm, pc', ls', st', mm', h => by
    simp only [stp] at h
    split at h
    next => cases h
    next q hq =>
      split at h
      next s' he => exact (x_one hq he).trans (x_run k h)
      next => cases h
theorem x_ret {q : INS} {r : Option AV} (hf : fetch M pc = some q) (he : ex M pc ls st mm q = some (.inr (.inl r))) : X d M pc ls st mm Q ↔ Q r mm := by
  constructor
  · rintro ⟨n, r', mm', h, hQ⟩
    cases n with
    | zero => simp [go] at h
    | succ n =>
      simp only [go, hf, he] at h
      cases h
      exact hQ
  · intro hQ
    refine ⟨1, r, mm, ?_, hQ⟩
    simp only [go, hf, he]
theorem x_call {q : INS} {M' : Nat} {av rest : List AV} {pc' : Nat} (hf : fetch M pc = some q) (he : ex M pc ls st mm q = some (.inr (.inr (M', av, rest, pc')))) : X (d + 1) M pc ls st mm Q ↔ X d M' 0 (entry M' av) [] mm (fun r mm' => X (d + 1) M pc' ls (r.toList ++ rest) mm' Q) := by
  constructor
  · rintro ⟨n, r, mm', h, hQ⟩
    cases n with
    | zero => simp [go] at h
    | succ n =>
      simp only [go, hf, he] at h
      split at h
      next => cases h
      next r1 mm1 h1 => exact ⟨n, r1, mm1, h1, n, r, mm', h, hQ⟩
  · rintro ⟨n1, r1, mm1, h1, n2, r, mm', h, hQ⟩
    refine ⟨max n1 n2 + 1, r, mm', ?_, hQ⟩
    simp only [go, hf, he]
    rw [go_fuel h1 (Nat.le_max_left _ _)]
    exact go_fuel h (Nat.le_max_right _ _)
theorem x_mono {Q' : Option AV → AMem → Prop} (h : X d M pc ls st mm Q) (hQ : ∀ r mm', Q r mm' → Q' r mm') : X d M pc ls st mm Q' := by
  obtain ⟨n, r, mm', h1, h2⟩ := h
  exact ⟨n, r, mm', h1, hQ r mm' h2⟩
end XR
end
section
/-! THE MEMORY of the class and of the reference: shapes by tags, the ints in I, the longs in J -/
def lenP (i : Nat) : Nat := if i < 6 then 40 else 60
def refv (c b i : Nat) : AV := match c with
  | 0 => vr (21 + b) i
  | 1 => vr 29 i
  | 2 => vr (31 + b) 0
  | 3 => match b with
    | 0 => vr 1 0
    | 1 => vr 2 0
    | 2 => vr 20 0
    | 3 => vr 4 0
    | 4 => vr 5 0
    | 9 => vr 30 0
    | _ => vr (b + 1) 0
  | _ => vr (40 + b) 0
def ofld (c b i : Nat) (f g : Nat → Int) : AV := match clF c b with
  | 0 => vi (f b)
  | 1 => vl (g b)
  | _ => refv c b i
def cellF (sc : Nat × (Nat → Int)) (t i : Nat) (f g : Nat → Int) : AE := (bif Nat.ble t 31 then (bif Nat.ble t 21 then (bif Nat.ble t 5 then (bif Nat.ble t 1 then (bif Nat.ble t 0 then .inr (.inr (3, fun b => ofld 3 b i f g)) else .inr (.inl (3, 6, fun j => some (28, j)))) else (bif Nat.ble t 2 then .inr (.inl (3, 4, fun j => some (28, 6 + j))) else (bif Nat.ble t 4 then .inr (.inl (2, 3, fun j => some (20, 1 + j))) else .inl (0, 6, f)))) else (bif Nat.ble t 12 then (bif Nat.ble t 11 then .inl (0, 1000, f) else .inl (0, 28, f)) else (bif Nat.ble t 13 then .inl (0, 64, f) else (bif Nat.ble t 20 then .inr (.inr (0, fun b => ofld 0 b i f g)) else .inl (0, 6, f))))) else (bif Nat.ble t 26 then (bif Nat.ble t 23 then (bif Nat.ble t 22 then .inl (0, 6, f) else .inl (0, 6, f)) else (bif Nat.ble t 24 then .inl (0, 40, f) else (bif Nat.ble t 25 then .inl (0, 40, f) else .inl (0, 40, f)))) else (bif Nat.ble t 28 then (bif Nat.ble t 27 then .inl (0, 40, f) else .inr (.inr (1, fun b => ofld 1 b i f g))) else (bif Nat.ble t 29 then .inl (0, lenP i, f) else (bif Nat.ble t 30 then .inr (.inr (2, fun b => ofld 2 b i f g)) else .inl (0, 4, f)))))) else (bif Nat.ble t 48 then (bif Nat.ble t 42 then (bif Nat.ble t 39 then (bif Nat.ble t 32 then .inl (0, 3, f) else .inr (.inr (4, fun b => ofld 4 b i f g))) else (bif Nat.ble t 40 then .inl (0, 6, f) else (bif Nat.ble t 41 then .inl (0, 240, f) else .inl (0, 4, f)))) else (bif Nat.ble t 45 then (bif Nat.ble t 43 then .inl (0, 240, f) else .inl (0, 6, f)) else (bif Nat.ble t 46 then .inl (0, 25, f) else (bif Nat.ble t 47 then .inl (0, 25, f) else .inl (0, 1000, f))))) else (bif Nat.ble t 59 then (bif Nat.ble t 51 then (bif Nat.ble t 50 then .inl (0, 3078, f) else .inl (1, 3, f)) else (bif Nat.ble t 56 then .inl (0, 6, f) else (bif Nat.ble t 58 then .inl (0, 6, f) else .inl (0, 25, f)))) else (bif Nat.ble t 61 then (bif Nat.ble t 60 then .inl (1, 1000, f) else .inl (0, 6, f)) else (bif Nat.ble t 62 then .inl (0, 64, f) else (bif Nat.ble t 63 then .inl (0, 2401, f) else .inl (4, sc.1, sc.2)))))))
abbrev TI : Type := Nat → Nat → Nat → Int
abbrev SC : Type := Nat × (Nat → Int)
def MM (sc : SC) (I J : TI) : AMem := (fun k => cellF sc k.1 k.2 (I k.1 k.2) (J k.1 k.2), 81, 10548)
def up2 (I : TI) (t i : Nat) (f : Nat → Int) : TI := fun t' => if t' = t then (fun i' => if i' = i then f else I t' i') else I t'
def upI (I : TI) (t i p : Nat) (v : Int) : TI := up2 I t i (upF (I t i) p v)
theorem up2_same (I : TI) (t i : Nat) (f : Nat → Int) : up2 I t i f t i = f := by simp [up2]
theorem up2_ne {I : TI} {t i t' i' : Nat} {f : Nat → Int} (h : (t', i') ≠ (t, i)) : up2 I t i f t' i' = I t' i' := by
  unfold up2
  by_cases h1 : t' = t
  · subst h1
    have : i' ≠ i := fun q => h (by rw [q])
    simp [this]
  · simp [h1]
theorem mm_up {sc : SC} {I J : TI} {t i : Nat} {f : Nat → Int} {e : AE} (he : cellF sc t i f (J t i) = e) : ((upM (MM sc I J).1 (t, i) e, (MM sc I J).2) : AMem) = MM sc (up2 I t i f) J := by
  subst he
  unfold MM
  congr 1
  funext k
  show (if k = (t, i) then cellF sc t i f (J t i) else cellF sc k.1 k.2 (I k.1 k.2) (J k.1 k.2)) = cellF sc k.1 k.2 (up2 I t i f k.1 k.2) (J k.1 k.2)
  split
  next h => subst h; rw [up2_same]
  next h => rw [up2_ne (I := I) (t' := k.1) (i' := k.2) h]
theorem mm_upJ {sc : SC} {I J : TI} {t i : Nat} {g : Nat → Int} {e : AE} (he : cellF sc t i (I t i) g = e) : ((upM (MM sc I J).1 (t, i) e, (MM sc I J).2) : AMem) = MM sc I (up2 J t i g) := by
  subst he
  unfold MM
  congr 1
  funext k
  show (if k = (t, i) then cellF sc t i (I t i) g else cellF sc k.1 k.2 (I k.1 k.2) (J k.1 k.2)) = cellF sc k.1 k.2 (I k.1 k.2) (up2 J t i g k.1 k.2)
  split
  next h => subst h; rw [up2_same]
  next h => rw [up2_ne (I := J) (t' := k.1) (i' := k.2) h]
theorem ofld_upI {c b i : Nat} {f g : Nat → Int} {v : Int} (hk : clF c b = 0) : (fun b' => ofld c b' i (upF f b v) g) = upF (fun b' => ofld c b' i f g) b (vi v) := by
  funext b'
  unfold upF
  by_cases h : b' = b
  · subst h
    simp [ofld, hk]
  · simp [ofld, h]
theorem ofld_upJ {c b i : Nat} {f g : Nat → Int} {v : Int} (hk : clF c b = 1) : (fun b' => ofld c b' i f (upF g b v)) = upF (fun b' => ofld c b' i f g) b (vl v) := by
  funext b'
  unfold upF
  by_cases h : b' = b
  · subst h
    simp [ofld, hk]
  · simp [ofld, h]
section TR
variable {d M pc : Nat} {ls : ALs} {st : List AV} {mm : AMem} {Q : Option AV → AMem → Prop} {sc : SC} {I J : TI} {t i n : Nat} {p v x y : Int} {off : Int} {z : Nat × Nat × Int}
theorem x_stuck {q : INS} (hf : fetch M pc = some q) (he : ex M pc ls st mm q = none) : ¬ X d M pc ls st mm Q := by
  rintro ⟨k, r, mm', h, -⟩
  cases k with
  | zero => simp [go] at h
  | succ k => simp only [go, hf, he] at h; cases h
/-- a load out of an int row -/
theorem x_iald (hf : fetch M pc = some (.iaload, 1, z)) (hc : ∀ f g, cellF sc t i f g = .inl (0, n, f)) : X d M pc ls (vi p :: vr t i :: st) (MM sc I J) Q ↔ (0 ≤ p ∧ p < (n : Int)) ∧ X d M (pc + 1) ls (vi (I t i p.toNat) :: st) (MM sc I J) Q := by
  have he : ex M pc ls (vi p :: vr t i :: st) (MM sc I J) (.iaload, 1, z) = if 0 ≤ p ∧ p < (n : Int) then some (.inl (pc + 1, ls, vi (I t i p.toNat) :: st, MM sc I J)) else none := by
    show exLd pc ls (vi p :: vr t i :: st) (MM sc I J) = _
    have e1 : (MM sc I J).1 (t, i) = .inl (0, n, I t i) := hc _ _
    simp only [exLd, vi, vr, e1]
    rfl
  by_cases h : 0 ≤ p ∧ p < (n : Int)
  · rw [if_pos h] at he
    rw [x_one hf he]
    simp [h]
  · rw [if_neg h] at he
    simp only [h, false_and, iff_false]
    exact x_stuck hf he
theorem x_sald (hf : fetch M pc = some (.iaload, 1, z)) : X d M pc ls (vi p :: vr 99 i :: st) (MM sc I J) Q ↔ (0 ≤ p ∧ p < (sc.1 : Int)) ∧ X d M (pc + 1) ls (vi (sc.2 p.toNat) :: st) (MM sc I J) Q := by
  have he : ex M pc ls (vi p :: vr 99 i :: st) (MM sc I J) (.iaload, 1, z) = if 0 ≤ p ∧ p < (sc.1 : Int) then some (.inl (pc + 1, ls, vi (sc.2 p.toNat) :: st, MM sc I J)) else none := by
    show exLd pc ls (vi p :: vr 99 i :: st) (MM sc I J) = _
    have e1 : (MM sc I J).1 (99, i) = .inl (4, sc.1, sc.2) := rfl
    simp only [exLd, vi, vr, e1]
    rfl
  by_cases h : 0 ≤ p ∧ p < (sc.1 : Int)
  · rw [if_pos h] at he
    rw [x_one hf he]
    simp [h]
  · rw [if_neg h] at he
    simp only [h, false_and, iff_false]
    exact x_stuck hf he
theorem x_iast (hf : fetch M pc = some (.iastore, 1, z)) (hc : ∀ f g, cellF sc t i f g = .inl (0, n, f)) : X d M pc ls (vi v :: vi p :: vr t i :: st) (MM sc I J) Q ↔ (0 ≤ p ∧ p < (n : Int)) ∧ X d M (pc + 1) ls st (MM sc (upI I t i p.toNat v) J) Q := by
  have he : ex M pc ls (vi v :: vi p :: vr t i :: st) (MM sc I J) (.iastore, 1, z) = if 0 ≤ p ∧ p < (n : Int) then some (.inl (pc + 1, ls, st, MM sc (upI I t i p.toNat v) J)) else none := by
    show exSt pc ls (vi v :: vi p :: vr t i :: st) (MM sc I J) = _
    have e1 : (MM sc I J).1 (t, i) = .inl (0, n, I t i) := hc _ _
    have e2 := mm_up (sc := sc) (I := I) (J := J) (t := t) (i := i) (hc (upF (I t i) p.toNat v) (J t i))
    simp only [exSt, vi, vr, e1]
    unfold upI
    rw [← e2]
    rfl
  by_cases h : 0 ≤ p ∧ p < (n : Int)
  · rw [if_pos h] at he
    rw [x_one hf he]
    simp [h]
  · rw [if_neg h] at he
    simp only [h, false_and, iff_false]
    exact x_stuck hf he
theorem x_zald (hf : fetch M pc = some (.baload, 1, z)) (hc : ∀ f g, cellF sc t i f g = .inl (1, n, f)) : X d M pc ls (vi p :: vr t i :: st) (MM sc I J) Q ↔ (0 ≤ p ∧ p < (n : Int)) ∧ X d M (pc + 1) ls (vi (I t i p.toNat) :: st) (MM sc I J) Q := by
  have he : ex M pc ls (vi p :: vr t i :: st) (MM sc I J) (.baload, 1, z) = if 0 ≤ p ∧ p < (n : Int) then some (.inl (pc + 1, ls, vi (I t i p.toNat) :: st, MM sc I J)) else none := by
    show exLdZ pc ls (vi p :: vr t i :: st) (MM sc I J) = _
    have e1 : (MM sc I J).1 (t, i) = .inl (1, n, I t i) := hc _ _
    simp only [exLdZ, vi, vr, e1]
    rfl
  by_cases h : 0 ≤ p ∧ p < (n : Int)
  · rw [if_pos h] at he
    rw [x_one hf he]
    simp [h]
  · rw [if_neg h] at he
    simp only [h, false_and, iff_false]
    exact x_stuck hf he
theorem x_zast (hf : fetch M pc = some (.bastore, 1, z)) (hv : v = 0 ∨ v = 1) (hc : ∀ f g, cellF sc t i f g = .inl (1, n, f)) : X d M pc ls (vi v :: vi p :: vr t i :: st) (MM sc I J) Q ↔ (0 ≤ p ∧ p < (n : Int)) ∧ X d M (pc + 1) ls st (MM sc (upI I t i p.toNat v) J) Q := by
  have he : ex M pc ls (vi v :: vi p :: vr t i :: st) (MM sc I J) (.bastore, 1, z) = if (v = 0 ∨ v = 1) ∧ 0 ≤ p ∧ p < (n : Int) then some (.inl (pc + 1, ls, st, MM sc (upI I t i p.toNat v) J)) else none := by
    show exStZ pc ls (vi v :: vi p :: vr t i :: st) (MM sc I J) = _
    have e1 : (MM sc I J).1 (t, i) = .inl (1, n, I t i) := hc _ _
    have e2 := mm_up (sc := sc) (I := I) (J := J) (t := t) (i := i) (hc (upF (I t i) p.toNat v) (J t i))
    simp only [exStZ, vi, vr, e1]
    unfold upI
    rw [← e2]
    rfl
  by_cases h : 0 ≤ p ∧ p < (n : Int)
  · rw [if_pos ⟨hv, h⟩] at he
    rw [x_one hf he]
    simp [h]
  · rw [if_neg (fun q => h q.2)] at he
    simp only [h, false_and, iff_false]
    exact x_stuck hf he
theorem x_aald {kd t' o : Nat} (hf : fetch M pc = some (.aaload, 1, z)) (hc : ∀ f g, cellF sc t i f g = .inr (.inl (kd, n, fun j => some (t', o + j)))) : X d M pc ls (vi p :: vr t i :: st) (MM sc I J) Q ↔ (0 ≤ p ∧ p < (n : Int)) ∧ X d M (pc + 1) ls (vr t' (o + p.toNat) :: st) (MM sc I J) Q := by
  have he : ex M pc ls (vi p :: vr t i :: st) (MM sc I J) (.aaload, 1, z) = if 0 ≤ p ∧ p < (n : Int) then some (.inl (pc + 1, ls, vr t' (o + p.toNat) :: st, MM sc I J)) else none := by
    show exLdA pc ls (vi p :: vr t i :: st) (MM sc I J) = _
    have e1 : (MM sc I J).1 (t, i) = .inr (.inl (kd, n, fun j => some (t', o + j))) := hc _ _
    simp only [exLdA, vi, vr, e1]
    rfl
  by_cases h : 0 ≤ p ∧ p < (n : Int)
  · rw [if_pos h] at he
    rw [x_one hf he]
    simp [h]
  · rw [if_neg h] at he
    simp only [h, false_and, iff_false]
    exact x_stuck hf he
theorem x_aald0 {kd t' : Nat} (hf : fetch M pc = some (.aaload, 1, z)) (hc : ∀ f g, cellF sc t i f g = .inr (.inl (kd, n, fun j => some (t', j)))) : X d M pc ls (vi p :: vr t i :: st) (MM sc I J) Q ↔ (0 ≤ p ∧ p < (n : Int)) ∧ X d M (pc + 1) ls (vr t' p.toNat :: st) (MM sc I J) Q := by
  have he : ex M pc ls (vi p :: vr t i :: st) (MM sc I J) (.aaload, 1, z) = if 0 ≤ p ∧ p < (n : Int) then some (.inl (pc + 1, ls, vr t' p.toNat :: st, MM sc I J)) else none := by
    show exLdA pc ls (vi p :: vr t i :: st) (MM sc I J) = _
    have e1 : (MM sc I J).1 (t, i) = .inr (.inl (kd, n, fun j => some (t', j))) := hc _ _
    simp only [exLdA, vi, vr, e1]
    rfl
  by_cases h : 0 ≤ p ∧ p < (n : Int)
  · rw [if_pos h] at he
    rw [x_one hf he]
    simp [h]
  · rw [if_neg h] at he
    simp only [h, false_and, iff_false]
    exact x_stuck hf he
theorem x_putI {c b k : Nat} {w : Int} (hf : fetch M pc = some (.putfield k, 3, c, b, w)) (hc : ∀ f g, cellF sc t i f g = .inr (.inr (c, fun b => ofld c b i f g))) (hk : clF c b = 0) (hM : Nat.ble 1 M = true) : X d M pc ls (vi v :: vr t i :: st) (MM sc I J) Q ↔ X d M (pc + 3) ls st (MM sc (upI I t i b v) J) Q := by
  have he : ex M pc ls (vi v :: vr t i :: st) (MM sc I J) (.putfield k, 3, c, b, w) = some (.inl (pc + 3, ls, st, MM sc (upI I t i b v) J)) := by
    show exPut M c b pc ls (vi v :: vr t i :: st) (MM sc I J) = _
    have e1 : (MM sc I J).1 (t, i) = .inr (.inr (c, fun b => ofld c b i (I t i) (J t i))) := hc _ _
    have e3 := hc (upF (I t i) b v) (J t i)
    rw [ofld_upI hk] at e3
    have e2 := mm_up (sc := sc) (I := I) (J := J) (t := t) (i := i) e3
    have e4 : Nat.beq c c = true := Nat.beq_refl c
    simp only [exPut, vi, vr, e1, hk, fitF, hM, e4, Bool.and_self]
    unfold upI
    rw [← e2]
    rfl
  exact x_one hf he
theorem x_putJ {c b k : Nat} {w : Int} (hf : fetch M pc = some (.putfield k, 3, c, b, w)) (hc : ∀ f g, cellF sc t i f g = .inr (.inr (c, fun b => ofld c b i f g))) (hk : clF c b = 1) (hM : Nat.ble 1 M = true) : X d M pc ls (vl v :: vr t i :: st) (MM sc I J) Q ↔ X d M (pc + 3) ls st (MM sc I (upI J t i b v)) Q := by
  have he : ex M pc ls (vl v :: vr t i :: st) (MM sc I J) (.putfield k, 3, c, b, w) = some (.inl (pc + 3, ls, st, MM sc I (upI J t i b v))) := by
    show exPut M c b pc ls (vl v :: vr t i :: st) (MM sc I J) = _
    have e1 : (MM sc I J).1 (t, i) = .inr (.inr (c, fun b => ofld c b i (I t i) (J t i))) := hc _ _
    have e3 := hc (I t i) (upF (J t i) b v)
    rw [ofld_upJ hk] at e3
    have e2 := mm_upJ (sc := sc) (I := I) (J := J) (t := t) (i := i) e3
    have e4 : Nat.beq c c = true := Nat.beq_refl c
    simp only [exPut, vl, vr, e1, hk, fitF, hM, e4, Bool.and_self]
    unfold upI
    rw [← e2]
    rfl
  exact x_one hf he
theorem x_cpy {t0 i0 n0 : Nat} {k : Nat} {sp dp q : Int} {b : Nat} {w : Int} (hf : fetch M pc = some (.invokestatic k, 3, 9999, b, w)) (hc0 : ∀ f g, cellF sc t0 i0 f g = .inl (0, n0, f)) (hc : ∀ f g, cellF sc t i f g = .inl (0, n, f)) (hr : Nat.ble st.length 4 = true) :
    X d M pc ls (vi q :: vi dp :: vr t i :: vi sp :: vr t0 i0 :: st) (MM sc I J) Q ↔ (0 ≤ sp ∧ 0 ≤ dp ∧ 0 ≤ q ∧ sp + q ≤ (n0 : Int) ∧ dp + q ≤ (n : Int)) ∧ X d M (pc + 3) ls st (MM sc (up2 I t i (cpF (I t0 i0) (I t i) sp.toNat dp.toNat q.toNat)) J) Q := by
  have he : ex M pc ls (vi q :: vi dp :: vr t i :: vi sp :: vr t0 i0 :: st) (MM sc I J) (.invokestatic k, 3, 9999, b, w) = if 0 ≤ sp ∧ 0 ≤ dp ∧ 0 ≤ q ∧ sp + q ≤ (n0 : Int) ∧ dp + q ≤ (n : Int) then some (.inl (pc + 3, ls, st, MM sc (up2 I t i (cpF (I t0 i0) (I t i) sp.toNat dp.toNat q.toNat)) J)) else none := by
    show exCpy pc ls (vi q :: vi dp :: vr t i :: vi sp :: vr t0 i0 :: st) (MM sc I J) = _
    have e0 : (MM sc I J).1 (t0, i0) = .inl (0, n0, I t0 i0) := hc0 _ _
    have e1 : (MM sc I J).1 (t, i) = .inl (0, n, I t i) := hc _ _
    have e2 := mm_up (sc := sc) (I := I) (J := J) (t := t) (i := i) (hc (cpF (I t0 i0) (I t i) sp.toNat dp.toNat q.toNat) (J t i))
    have e4 : Nat.beq 0 0 = true := rfl
    simp only [exCpy, vi, vr, e0, e1, hr, e4, Bool.and_self]
    rw [← e2]
    rfl
  by_cases h : 0 ≤ sp ∧ 0 ≤ dp ∧ 0 ≤ q ∧ sp + q ≤ (n0 : Int) ∧ dp + q ≤ (n : Int)
  · rw [if_pos h] at he
    rw [x_one hf he]
    simp [h]
  · rw [if_neg h] at he
    simp only [h, false_and, iff_false]
    exact x_stuck hf he
theorem x_br {q : INS} {c : Prop} [Decidable c] {pt pf : Nat} {st' : List AV} (hf : fetch M pc = some q) (he : ex M pc ls st mm q = some (.inl (bif decide c then pt else pf, ls, st', mm))) : X d M pc ls st mm Q ↔ if c then X d M pt ls st' mm Q else X d M pf ls st' mm Q := by
  rw [x_one hf he]
  by_cases h : c
  · simp [h]
  · simp [h]
theorem x_brn {q : INS} {c : Prop} [Decidable c] {pt pf : Nat} {st' : List AV} (hf : fetch M pc = some q) (he : ex M pc ls st mm q = some (.inl (bif !decide c then pt else pf, ls, st', mm))) : X d M pc ls st mm Q ↔ if c then X d M pf ls st' mm Q else X d M pt ls st' mm Q := by
  rw [x_one hf he]
  by_cases h : c
  · simp [h]
  · simp [h]
theorem x_idiv (hf : fetch M pc = some (.idiv, 1, z)) : X d M pc ls (vi y :: vi x :: st) mm Q ↔ ¬ y = 0 ∧ X d M (pc + 1) ls (vi (w32 (x.tdiv y)) :: st) mm Q := by
  by_cases h : y = 0
  · subst h
    simp only [not_true_eq_false, false_and, iff_false]
    refine x_stuck hf ?_
    show bnD (fun x y => w32 (x.tdiv y)) pc ls (vi 0 :: vi x :: st) mm = none
    simp [bnD, vi]
  · have he : ex M pc ls (vi y :: vi x :: st) mm (.idiv, 1, z) = some (.inl (pc + 1, ls, vi (w32 (x.tdiv y)) :: st, mm)) := by
      show bnD (fun x y => w32 (x.tdiv y)) pc ls (vi y :: vi x :: st) mm = _
      simp [bnD, vi, h, nx]
    rw [x_one hf he]
    simp [h]
theorem x_irem (hf : fetch M pc = some (.irem, 1, z)) : X d M pc ls (vi y :: vi x :: st) mm Q ↔ ¬ y = 0 ∧ X d M (pc + 1) ls (vi (x.tmod y) :: st) mm Q := by
  by_cases h : y = 0
  · subst h
    simp only [not_true_eq_false, false_and, iff_false]
    refine x_stuck hf ?_
    show bnD (fun x y => x.tmod y) pc ls (vi 0 :: vi x :: st) mm = none
    simp [bnD, vi]
  · have he : ex M pc ls (vi y :: vi x :: st) mm (.irem, 1, z) = some (.inl (pc + 1, ls, vi (x.tmod y) :: st, mm)) := by
      show bnD (fun x y => x.tmod y) pc ls (vi y :: vi x :: st) mm = _
      simp [bnD, vi, h, nx]
    rw [x_one hf he]
    simp [h]
theorem x_ldiv (hf : fetch M pc = some (.ldiv, 1, z)) : X d M pc ls (vl y :: vl x :: st) mm Q ↔ ¬ y = 0 ∧ X d M (pc + 1) ls (vl (w64 (x.tdiv y)) :: st) mm Q := by
  by_cases h : y = 0
  · subst h
    simp only [not_true_eq_false, false_and, iff_false]
    refine x_stuck hf ?_
    show bnM (fun x y => w64 (x.tdiv y)) pc ls (vl 0 :: vl x :: st) mm = none
    simp [bnM, vl]
  · have he : ex M pc ls (vl y :: vl x :: st) mm (.ldiv, 1, z) = some (.inl (pc + 1, ls, vl (w64 (x.tdiv y)) :: st, mm)) := by
      show bnM (fun x y => w64 (x.tdiv y)) pc ls (vl y :: vl x :: st) mm = _
      simp [bnM, vl, h, nx]
    rw [x_one hf he]
    simp [h]
theorem x_lrem (hf : fetch M pc = some (.lrem, 1, z)) : X d M pc ls (vl y :: vl x :: st) mm Q ↔ ¬ y = 0 ∧ X d M (pc + 1) ls (vl (x.tmod y) :: st) mm Q := by
  by_cases h : y = 0
  · subst h
    simp only [not_true_eq_false, false_and, iff_false]
    refine x_stuck hf ?_
    show bnM (fun x y => x.tmod y) pc ls (vl 0 :: vl x :: st) mm = none
    simp [bnM, vl]
  · have he : ex M pc ls (vl y :: vl x :: st) mm (.lrem, 1, z) = some (.inl (pc + 1, ls, vl (x.tmod y) :: st, mm)) := by
      show bnM (fun x y => x.tmod y) pc ls (vl y :: vl x :: st) mm = _
      simp [bnM, vl, h, nx]
    rw [x_one hf he]
    simp [h]
theorem x_zret {w : Nat × Int} (hf : fetch M pc = some (.ireturn, 1, 1, w)) : X d M pc ls [vi x] mm Q ↔ (x = 0 ∨ x = 1) ∧ Q (some (vi x)) mm := by
  by_cases h : x = 0 ∨ x = 1
  · have he : ex M pc ls [vi x] mm (.ireturn, 1, 1, w) = some (.inr (.inl (some (vi x)))) := by
      show (if x = 0 ∨ x = 1 then some (Sum.inr (Sum.inl (some (vi x)))) else none : Option ROut) = _
      rw [if_pos h]
    rw [x_ret hf he]
    simp [h]
  · simp only [h, false_and, iff_false]
    refine x_stuck hf ?_
    show (if x = 0 ∨ x = 1 then some (Sum.inr (Sum.inl (some (vi x)))) else none : Option ROut) = none
    rw [if_neg h]
end TR
end
