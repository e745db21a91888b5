theorem cb_0_0 : chkB x code (some .boolean) 0 tb_0_0 = true := by decide +kernel
theorem cb_0_1 : chkB x code (some .boolean) 64 tb_0_1 = true := by decide +kernel
theorem cb_0_2 : chkB x code (some .boolean) 128 tb_0_2 = true := by decide +kernel
theorem cb_0_3 : chkB x code (some .boolean) 192 tb_0_3 = true := by decide +kernel
theorem cb_0_4 : chkB x code (some .boolean) 256 tb_0_4 = true := by decide +kernel
theorem cb_0_5 : chkB x code (some .boolean) 320 tb_0_5 = true := by decide +kernel
theorem cb_0_6 : chkB x code (some .boolean) 384 tb_0_6 = true := by decide +kernel
theorem cb_0_7 : chkB x code (some .boolean) 448 tb_0_7 = true := by decide +kernel
theorem cb_0_8 : chkB x code (some .boolean) 512 tb_0_8 = true := by decide +kernel
theorem cb_0_9 : chkB x code (some .boolean) 576 tb_0_9 = true := by decide +kernel
theorem cb_0_10 : chkB x code (some .boolean) 640 tb_0_10 = true := by decide +kernel
theorem cb_0_11 : chkB x code (some .boolean) 704 tb_0_11 = true := by decide +kernel
theorem cb_0_12 : chkB x code (some .boolean) 768 tb_0_12 = true := by decide +kernel
theorem cb_0_13 : chkB x code (some .boolean) 832 tb_0_13 = true := by decide +kernel
theorem cb_0_14 : chkB x code (some .boolean) 896 tb_0_14 = true := by decide +kernel
theorem cb_0_15 : chkB x code (some .boolean) 960 tb_0_15 = true := by decide +kernel
theorem cb_0_16 : chkB x code (some .boolean) 1024 tb_0_16 = true := by decide +kernel
theorem cb_0_17 : chkB x code (some .boolean) 1088 tb_0_17 = true := by decide +kernel
theorem cb_0_18 : chkB x code (some .boolean) 1152 tb_0_18 = true := by decide +kernel
theorem cb_0_19 : chkB x code (some .boolean) 1216 tb_0_19 = true := by decide +kernel
theorem cb_0_20 : chkB x code (some .boolean) 1280 tb_0_20 = true := by decide +kernel
theorem cb_0_21 : chkB x code (some .boolean) 1344 tb_0_21 = true := by decide +kernel
theorem cb_0 : chkB x code (some .boolean) 0 tb_0 = true := (chkB_app cb_0_0 rfl (chkB_app cb_0_1 rfl (chkB_app cb_0_2 rfl (chkB_app cb_0_3 rfl (chkB_app cb_0_4 rfl (chkB_app cb_0_5 rfl (chkB_app cb_0_6 rfl (chkB_app cb_0_7 rfl (chkB_app cb_0_8 rfl (chkB_app cb_0_9 rfl (chkB_app cb_0_10 rfl (chkB_app cb_0_11 rfl (chkB_app cb_0_12 rfl (chkB_app cb_0_13 rfl (chkB_app cb_0_14 rfl (chkB_app cb_0_15 rfl (chkB_app cb_0_16 rfl (chkB_app cb_0_17 rfl (chkB_app cb_0_18 rfl (chkB_app cb_0_19 rfl (chkB_app cb_0_20 rfl cb_0_21)))))))))))))))))))))
theorem cb_1_0 : chkB ⟨"FerryChange$Ferry", "<init>", "()V"⟩ prog_2_method_1_code none 0 tb_1_0 = true := by decide +kernel
theorem cb_1_1 : chkB ⟨"FerryChange$Ferry", "<init>", "()V"⟩ prog_2_method_1_code none 64 tb_1_1 = true := by decide +kernel
theorem cb_1 : chkB ⟨"FerryChange$Ferry", "<init>", "()V"⟩ prog_2_method_1_code none 0 tb_1 = true := (chkB_app cb_1_0 rfl cb_1_1)
theorem cb_2 : chkB ⟨"FerryChange$Ferry", "isEmpty", "()Z"⟩ prog_2_method_2_code (some .boolean) 0 tb_2 = true := by decide +kernel
theorem cb_3 : chkB ⟨"FerryChange$Ferry", "clear", "()V"⟩ prog_2_method_3_code none 0 tb_3 = true := by decide +kernel
theorem cb_4 : chkB ⟨"FerryChange$Ferry", "board", "(III)V"⟩ prog_2_method_4_code none 0 tb_4 = true := by decide +kernel
theorem cb_5_0 : chkB ⟨"FerryChange$Ferry", "takeFrom", "(LFerryChange$Ferry;)V"⟩ prog_2_method_5_code none 0 tb_5_0 = true := by decide +kernel
theorem cb_5_1 : chkB ⟨"FerryChange$Ferry", "takeFrom", "(LFerryChange$Ferry;)V"⟩ prog_2_method_5_code none 64 tb_5_1 = true := by decide +kernel
theorem cb_5_2 : chkB ⟨"FerryChange$Ferry", "takeFrom", "(LFerryChange$Ferry;)V"⟩ prog_2_method_5_code none 128 tb_5_2 = true := by decide +kernel
theorem cb_5 : chkB ⟨"FerryChange$Ferry", "takeFrom", "(LFerryChange$Ferry;)V"⟩ prog_2_method_5_code none 0 tb_5 = true := (chkB_app cb_5_0 rfl (chkB_app cb_5_1 rfl cb_5_2))
theorem cb_6 : chkB ⟨"FerryChange$Ferry", "hasRoomFor", "(I)Z"⟩ prog_2_method_6_code (some .boolean) 0 tb_6 = true := by decide +kernel
theorem cb_7_0 : chkB ⟨"FerryChange$Ferry", "noteDeed", "(I)V"⟩ prog_2_method_7_code none 0 tb_7_0 = true := by decide +kernel
theorem cb_7_1 : chkB ⟨"FerryChange$Ferry", "noteDeed", "(I)V"⟩ prog_2_method_7_code none 64 tb_7_1 = true := by decide +kernel
theorem cb_7 : chkB ⟨"FerryChange$Ferry", "noteDeed", "(I)V"⟩ prog_2_method_7_code none 0 tb_7 = true := (chkB_app cb_7_0 rfl cb_7_1)
theorem cb_8_0 : chkB ⟨"FerryChange$Ferry", "takeOver", "(II)Z"⟩ prog_2_method_8_code (some .boolean) 0 tb_8_0 = true := by decide +kernel
theorem cb_8_1 : chkB ⟨"FerryChange$Ferry", "takeOver", "(II)Z"⟩ prog_2_method_8_code (some .boolean) 64 tb_8_1 = true := by decide +kernel
theorem cb_8 : chkB ⟨"FerryChange$Ferry", "takeOver", "(II)Z"⟩ prog_2_method_8_code (some .boolean) 0 tb_8 = true := (chkB_app cb_8_0 rfl cb_8_1)
theorem cb_9 : chkB ⟨"FerryChange$Ferry", "setByHand", "(III)V"⟩ prog_2_method_9_code none 0 tb_9 = true := by decide +kernel
theorem cb_10 : chkB ⟨"FerryChange$Ferry", "doByLot", "(I)V"⟩ prog_2_method_10_code none 0 tb_10 = true := by decide +kernel
theorem cb_11_0 : chkB ⟨"FerryChange$Ferry", "undoFrom", "(I)I"⟩ prog_2_method_11_code (some .int) 0 tb_11_0 = true := by decide +kernel
theorem cb_11_1 : chkB ⟨"FerryChange$Ferry", "undoFrom", "(I)I"⟩ prog_2_method_11_code (some .int) 64 tb_11_1 = true := by decide +kernel
theorem cb_11 : chkB ⟨"FerryChange$Ferry", "undoFrom", "(I)I"⟩ prog_2_method_11_code (some .int) 0 tb_11 = true := (chkB_app cb_11_0 rfl cb_11_1)
theorem cb_12 : chkB ⟨"FerryChange$Ferry", "onBankOne", "()I"⟩ prog_2_method_12_code (some .int) 0 tb_12 = true := by decide +kernel
theorem cb_13 : chkB ⟨"FerryChange$Ferry", "othersOnBankOf", "(I)I"⟩ prog_2_method_13_code (some .int) 0 tb_13 = true := by decide +kernel
theorem cb_14 : chkB ⟨"FerryChange$Ferry", "howManyOf", "(I)I"⟩ prog_2_method_14_code (some .int) 0 tb_14 = true := by decide +kernel
theorem cb_15 : chkB ⟨"FerryChange$Ferry", "setCount", "()I"⟩ prog_2_method_15_code (some .int) 0 tb_15 = true := by decide +kernel
theorem cb_16 : chkB ⟨"FerryChange$Ferry", "weightOfSet", "(I)I"⟩ prog_2_method_16_code (some .int) 0 tb_16 = true := by decide +kernel
theorem cb_17 : chkB ⟨"FerryChange$Ferry", "heaviest", "()I"⟩ prog_2_method_17_code (some .int) 0 tb_17 = true := by decide +kernel
theorem cb_18_0 : chkB ⟨"FerryChange$Kinds", "ofLetter", "(I)I"⟩ prog_3_method_2_code (some .int) 0 tb_18_0 = true := by decide +kernel
theorem cb_18_1 : chkB ⟨"FerryChange$Kinds", "ofLetter", "(I)I"⟩ prog_3_method_2_code (some .int) 64 tb_18_1 = true := by decide +kernel
theorem cb_18 : chkB ⟨"FerryChange$Kinds", "ofLetter", "(I)I"⟩ prog_3_method_2_code (some .int) 0 tb_18 = true := (chkB_app cb_18_0 rfl cb_18_1)
theorem cb_19 : chkB ⟨"FerryChange$Kinds", "isOf", "(II)Z"⟩ prog_3_method_3_code (some .boolean) 0 tb_19 = true := by decide +kernel
theorem cb_20 : chkB ⟨"FerryChange$Kinds", "stepOf", "(II)I"⟩ prog_3_method_4_code (some .int) 0 tb_20 = true := by decide +kernel
theorem cb_21 : chkB ⟨"FerryChange$Kinds", "thingOf", "(II)I"⟩ prog_3_method_5_code (some .int) 0 tb_21 = true := by decide +kernel
theorem cb_22 : chkB ⟨"FerryChange$Kinds", "changeOf", "(III)I"⟩ prog_3_method_6_code (some .int) 0 tb_22 = true := by decide +kernel
theorem cb_23_0 : chkB ⟨"FerryChange$Kinds", "landing", "(IIII)I"⟩ prog_3_method_7_code (some .int) 0 tb_23_0 = true := by decide +kernel
theorem cb_23_1 : chkB ⟨"FerryChange$Kinds", "landing", "(IIII)I"⟩ prog_3_method_7_code (some .int) 64 tb_23_1 = true := by decide +kernel
theorem cb_23 : chkB ⟨"FerryChange$Kinds", "landing", "(IIII)I"⟩ prog_3_method_7_code (some .int) 0 tb_23 = true := (chkB_app cb_23_0 rfl cb_23_1)
theorem cb_24 : chkB ⟨"FerryChange$Kinds", "lifeThen", "(IIII)I"⟩ prog_3_method_8_code (some .int) 0 tb_24 = true := by decide +kernel
theorem cb_25 : chkB ⟨"FerryChange$Kinds", "landings", "(III)I"⟩ prog_3_method_9_code (some .int) 0 tb_25 = true := by decide +kernel
theorem cb_26 : chkB ⟨"FerryChange$Kinds", "weightOf", "(II)I"⟩ prog_3_method_10_code (some .int) 0 tb_26 = true := by decide +kernel
theorem cb_27 : chkB ⟨"FerryChange$Life", "worthOf", "(I)I"⟩ prog_4_method_2_code (some .int) 0 tb_27 = true := by decide +kernel
theorem cb_28 : chkB ⟨"FerryChange$Life", "thing", "(II)I"⟩ prog_4_method_3_code (some .int) 0 tb_28 = true := by decide +kernel
theorem cb_29 : chkB ⟨"FerryChange$Life", "together", "(I)I"⟩ prog_4_method_4_code (some .int) 0 tb_29 = true := by decide +kernel
theorem cb_30 : chkB ⟨"FerryChange$Life", "leastThing", "(I)I"⟩ prog_4_method_5_code (some .int) 0 tb_30 = true := by decide +kernel
theorem cb_31 : chkB ⟨"FerryChange$Life", "isAs", "(I[I)Z"⟩ prog_4_method_6_code (some .boolean) 0 tb_31 = true := by decide +kernel
theorem cb_32 : chkB ⟨"FerryChange$Row", "<init>", "(I)V"⟩ prog_5_method_1_code none 0 tb_32 = true := by decide +kernel
theorem cb_33 : chkB ⟨"FerryChange$Row", "isMissing", "()Z"⟩ prog_5_method_2_code (some .boolean) 0 tb_33 = true := by decide +kernel
theorem cb_34 : chkB ⟨"FerryChange$Row", "hasPlaces", "(II)Z"⟩ prog_5_method_3_code (some .boolean) 0 tb_34 = true := by decide +kernel
theorem cb_35 : chkB ⟨"FerryChange$Row", "renew", "(II)V"⟩ prog_5_method_4_code none 0 tb_35 = true := by decide +kernel
theorem cb_36 : chkB ⟨"FerryChange$Row", "digestInto", "(J)J"⟩ prog_5_method_5_code (some .long) 0 tb_36 = true := by decide +kernel
theorem cb_37 : chkB ⟨"FerryChange$Search", "<init>", "()V"⟩ prog_6_method_1_code none 0 tb_37 = true := by decide +kernel
theorem cb_38_0 : chkB ⟨"FerryChange", "<init>", "()V"⟩ prog_1_method_1_code none 0 tb_38_0 = true := by decide +kernel
theorem cb_38_1 : chkB ⟨"FerryChange", "<init>", "()V"⟩ prog_1_method_1_code none 64 tb_38_1 = true := by decide +kernel
theorem cb_38_2 : chkB ⟨"FerryChange", "<init>", "()V"⟩ prog_1_method_1_code none 128 tb_38_2 = true := by decide +kernel
theorem cb_38 : chkB ⟨"FerryChange", "<init>", "()V"⟩ prog_1_method_1_code none 0 tb_38 = true := (chkB_app cb_38_0 rfl (chkB_app cb_38_1 rfl cb_38_2))
theorem cb_39 : chkB ⟨"FerryChange", "row", "(II)I"⟩ prog_1_method_2_code (some .int) 0 tb_39 = true := by decide +kernel
theorem cb_40 : chkB ⟨"FerryChange", "lay", "(III)I"⟩ prog_1_method_3_code (some .int) 0 tb_40 = true := by decide +kernel
theorem cb_41 : chkB ⟨"FerryChange", "at", "(II)I"⟩ prog_1_method_4_code (some .int) 0 tb_41 = true := by decide +kernel
theorem cb_42 : chkB ⟨"FerryChange", "tear", "(I)I"⟩ prog_1_method_5_code (some .int) 0 tb_42 = true := by decide +kernel
theorem cb_43_0 : chkB ⟨"FerryChange", "copy", "(IIIII)I"⟩ prog_1_method_6_code (some .int) 0 tb_43_0 = true := by decide +kernel
theorem cb_43_1 : chkB ⟨"FerryChange", "copy", "(IIIII)I"⟩ prog_1_method_6_code (some .int) 64 tb_43_1 = true := by decide +kernel
theorem cb_43 : chkB ⟨"FerryChange", "copy", "(IIIII)I"⟩ prog_1_method_6_code (some .int) 0 tb_43 = true := (chkB_app cb_43_0 rfl cb_43_1)
theorem cb_44_0 : chkB ⟨"FerryChange", "mean", "(I)I"⟩ prog_1_method_7_code (some .int) 0 tb_44_0 = true := by decide +kernel
theorem cb_44_1 : chkB ⟨"FerryChange", "mean", "(I)I"⟩ prog_1_method_7_code (some .int) 64 tb_44_1 = true := by decide +kernel
theorem cb_44 : chkB ⟨"FerryChange", "mean", "(I)I"⟩ prog_1_method_7_code (some .int) 0 tb_44 = true := (chkB_app cb_44_0 rfl cb_44_1)
theorem cb_45 : chkB ⟨"FerryChange", "text", "(II)I"⟩ prog_1_method_8_code (some .int) 0 tb_45 = true := by decide +kernel
theorem cb_46 : chkB ⟨"FerryChange", "put", "(III)I"⟩ prog_1_method_9_code (some .int) 0 tb_46 = true := by decide +kernel
theorem cb_47 : chkB ⟨"FerryChange", "fault", "(I)I"⟩ prog_1_method_10_code (some .int) 0 tb_47 = true := by decide +kernel
theorem cb_48_0 : chkB ⟨"FerryChange", "ferry", "(I)I"⟩ prog_1_method_11_code (some .int) 0 tb_48_0 = true := by decide +kernel
theorem cb_48_1 : chkB ⟨"FerryChange", "ferry", "(I)I"⟩ prog_1_method_11_code (some .int) 64 tb_48_1 = true := by decide +kernel
theorem cb_48 : chkB ⟨"FerryChange", "ferry", "(I)I"⟩ prog_1_method_11_code (some .int) 0 tb_48 = true := (chkB_app cb_48_0 rfl cb_48_1)
theorem cb_49 : chkB ⟨"FerryChange", "passenger", "(II)I"⟩ prog_1_method_12_code (some .int) 0 tb_49 = true := by decide +kernel
theorem cb_50_0 : chkB ⟨"FerryChange", "mark", "(II)I"⟩ prog_1_method_13_code (some .int) 0 tb_50_0 = true := by decide +kernel
theorem cb_50_1 : chkB ⟨"FerryChange", "mark", "(II)I"⟩ prog_1_method_13_code (some .int) 64 tb_50_1 = true := by decide +kernel
theorem cb_50_2 : chkB ⟨"FerryChange", "mark", "(II)I"⟩ prog_1_method_13_code (some .int) 128 tb_50_2 = true := by decide +kernel
theorem cb_50 : chkB ⟨"FerryChange", "mark", "(II)I"⟩ prog_1_method_13_code (some .int) 0 tb_50 = true := (chkB_app cb_50_0 rfl (chkB_app cb_50_1 rfl cb_50_2))
theorem cb_51 : chkB ⟨"FerryChange", "cross", "(II)I"⟩ prog_1_method_14_code (some .int) 0 tb_51 = true := by decide +kernel
theorem cb_52_0 : chkB ⟨"FerryChange", "set", "(III)I"⟩ prog_1_method_15_code (some .int) 0 tb_52_0 = true := by decide +kernel
theorem cb_52_1 : chkB ⟨"FerryChange", "set", "(III)I"⟩ prog_1_method_15_code (some .int) 64 tb_52_1 = true := by decide +kernel
theorem cb_52 : chkB ⟨"FerryChange", "set", "(III)I"⟩ prog_1_method_15_code (some .int) 0 tb_52 = true := (chkB_app cb_52_0 rfl cb_52_1)
theorem cb_53 : chkB ⟨"FerryChange", "undo", "(I)I"⟩ prog_1_method_16_code (some .int) 0 tb_53 = true := by decide +kernel
theorem cb_54 : chkB ⟨"FerryChange", "keep", "(I)I"⟩ prog_1_method_17_code (some .int) 0 tb_54 = true := by decide +kernel
theorem cb_55 : chkB ⟨"FerryChange", "on", "(I)I"⟩ prog_1_method_18_code (some .int) 0 tb_55 = true := by decide +kernel
theorem cb_56 : chkB ⟨"FerryChange", "changes", "(III)I"⟩ prog_1_method_19_code (some .int) 0 tb_56 = true := by decide +kernel
theorem cb_57_0 : chkB ⟨"FerryChange", "run", "(II)I"⟩ prog_1_method_20_code (some .int) 0 tb_57_0 = true := by decide +kernel
theorem cb_57_1 : chkB ⟨"FerryChange", "run", "(II)I"⟩ prog_1_method_20_code (some .int) 64 tb_57_1 = true := by decide +kernel
theorem cb_57_2 : chkB ⟨"FerryChange", "run", "(II)I"⟩ prog_1_method_20_code (some .int) 128 tb_57_2 = true := by decide +kernel
theorem cb_57 : chkB ⟨"FerryChange", "run", "(II)I"⟩ prog_1_method_20_code (some .int) 0 tb_57 = true := (chkB_app cb_57_0 rfl (chkB_app cb_57_1 rfl cb_57_2))
theorem cb_58_0 : chkB ⟨"FerryChange", "fewest", "(IIII)I"⟩ prog_1_method_21_code (some .int) 0 tb_58_0 = true := by decide +kernel
theorem cb_58_1 : chkB ⟨"FerryChange", "fewest", "(IIII)I"⟩ prog_1_method_21_code (some .int) 64 tb_58_1 = true := by decide +kernel
theorem cb_58_2 : chkB ⟨"FerryChange", "fewest", "(IIII)I"⟩ prog_1_method_21_code (some .int) 128 tb_58_2 = true := by decide +kernel
theorem cb_58_3 : chkB ⟨"FerryChange", "fewest", "(IIII)I"⟩ prog_1_method_21_code (some .int) 192 tb_58_3 = true := by decide +kernel
theorem cb_58 : chkB ⟨"FerryChange", "fewest", "(IIII)I"⟩ prog_1_method_21_code (some .int) 0 tb_58 = true := (chkB_app cb_58_0 rfl (chkB_app cb_58_1 rfl (chkB_app cb_58_2 rfl cb_58_3)))
theorem cb_59_0 : chkB ⟨"FerryChange", "lives", "(II)I"⟩ prog_1_method_22_code (some .int) 0 tb_59_0 = true := by decide +kernel
theorem cb_59_1 : chkB ⟨"FerryChange", "lives", "(II)I"⟩ prog_1_method_22_code (some .int) 64 tb_59_1 = true := by decide +kernel
theorem cb_59 : chkB ⟨"FerryChange", "lives", "(II)I"⟩ prog_1_method_22_code (some .int) 0 tb_59 = true := (chkB_app cb_59_0 rfl cb_59_1)
theorem cb_60_0 : chkB ⟨"FerryChange", "declared", "(II)I"⟩ prog_1_method_23_code (some .int) 0 tb_60_0 = true := by decide +kernel
theorem cb_60_1 : chkB ⟨"FerryChange", "declared", "(II)I"⟩ prog_1_method_23_code (some .int) 64 tb_60_1 = true := by decide +kernel
theorem cb_60 : chkB ⟨"FerryChange", "declared", "(II)I"⟩ prog_1_method_23_code (some .int) 0 tb_60 = true := (chkB_app cb_60_0 rfl cb_60_1)
theorem cb_61 : chkB ⟨"FerryChange", "kinds", "(II)I"⟩ prog_1_method_24_code (some .int) 0 tb_61 = true := by decide +kernel
theorem cb_62_0 : chkB ⟨"FerryChange", "next", "(II)I"⟩ prog_1_method_25_code (some .int) 0 tb_62_0 = true := by decide +kernel
theorem cb_62_1 : chkB ⟨"FerryChange", "next", "(II)I"⟩ prog_1_method_25_code (some .int) 64 tb_62_1 = true := by decide +kernel
theorem cb_62 : chkB ⟨"FerryChange", "next", "(II)I"⟩ prog_1_method_25_code (some .int) 0 tb_62 = true := (chkB_app cb_62_0 rfl cb_62_1)
theorem cb_63_0 : chkB ⟨"FerryChange", "boats", "(I)I"⟩ prog_1_method_26_code (some .int) 0 tb_63_0 = true := by decide +kernel
theorem cb_63_1 : chkB ⟨"FerryChange", "boats", "(I)I"⟩ prog_1_method_26_code (some .int) 64 tb_63_1 = true := by decide +kernel
theorem cb_63 : chkB ⟨"FerryChange", "boats", "(I)I"⟩ prog_1_method_26_code (some .int) 0 tb_63 = true := (chkB_app cb_63_0 rfl cb_63_1)
theorem cb_64_0 : chkB ⟨"FerryChange", "sets", "(I)I"⟩ prog_1_method_27_code (some .int) 0 tb_64_0 = true := by decide +kernel
theorem cb_64_1 : chkB ⟨"FerryChange", "sets", "(I)I"⟩ prog_1_method_27_code (some .int) 64 tb_64_1 = true := by decide +kernel
theorem cb_64 : chkB ⟨"FerryChange", "sets", "(I)I"⟩ prog_1_method_27_code (some .int) 0 tb_64 = true := (chkB_app cb_64_0 rfl cb_64_1)
theorem cb_65_0 : chkB ⟨"FerryChange", "sure", "(I)I"⟩ prog_1_method_28_code (some .int) 0 tb_65_0 = true := by decide +kernel
theorem cb_65_1 : chkB ⟨"FerryChange", "sure", "(I)I"⟩ prog_1_method_28_code (some .int) 64 tb_65_1 = true := by decide +kernel
theorem cb_65 : chkB ⟨"FerryChange", "sure", "(I)I"⟩ prog_1_method_28_code (some .int) 0 tb_65 = true := (chkB_app cb_65_0 rfl cb_65_1)
theorem cb_66_0 : chkB ⟨"FerryChange", "alike", "(II)I"⟩ prog_1_method_29_code (some .int) 0 tb_66_0 = true := by decide +kernel
theorem cb_66_1 : chkB ⟨"FerryChange", "alike", "(II)I"⟩ prog_1_method_29_code (some .int) 64 tb_66_1 = true := by decide +kernel
theorem cb_66_2 : chkB ⟨"FerryChange", "alike", "(II)I"⟩ prog_1_method_29_code (some .int) 128 tb_66_2 = true := by decide +kernel
theorem cb_66 : chkB ⟨"FerryChange", "alike", "(II)I"⟩ prog_1_method_29_code (some .int) 0 tb_66 = true := (chkB_app cb_66_0 rfl (chkB_app cb_66_1 rfl cb_66_2))
theorem cb_67_0 : chkB ⟨"FerryChange", "duel", "(III)I"⟩ prog_1_method_30_code (some .int) 0 tb_67_0 = true := by decide +kernel
theorem cb_67_1 : chkB ⟨"FerryChange", "duel", "(III)I"⟩ prog_1_method_30_code (some .int) 64 tb_67_1 = true := by decide +kernel
theorem cb_67 : chkB ⟨"FerryChange", "duel", "(III)I"⟩ prog_1_method_30_code (some .int) 0 tb_67 = true := (chkB_app cb_67_0 rfl cb_67_1)
theorem cb_68 : chkB ⟨"FerryChange", "odds", "(III)I"⟩ prog_1_method_31_code (some .int) 0 tb_68 = true := by decide +kernel
theorem cb_69 : chkB ⟨"FerryChange", "mid", "(III)I"⟩ prog_1_method_32_code (some .int) 0 tb_69 = true := by decide +kernel
theorem cb_70_0 : chkB ⟨"FerryChange", "lots", "(II)I"⟩ prog_1_method_33_code (some .int) 0 tb_70_0 = true := by decide +kernel
theorem cb_70_1 : chkB ⟨"FerryChange", "lots", "(II)I"⟩ prog_1_method_33_code (some .int) 64 tb_70_1 = true := by decide +kernel
theorem cb_70 : chkB ⟨"FerryChange", "lots", "(II)I"⟩ prog_1_method_33_code (some .int) 0 tb_70 = true := (chkB_app cb_70_0 rfl cb_70_1)
theorem cb_71 : chkB ⟨"FerryChange", "asked", "()I"⟩ prog_1_method_34_code (some .int) 0 tb_71 = true := by decide +kernel
theorem cb_72 : chkB ⟨"FerryChange", "upper", "()J"⟩ prog_1_method_35_code (some .long) 0 tb_72 = true := by decide +kernel
theorem cb_73 : chkB ⟨"FerryChange", "lower", "()J"⟩ prog_1_method_36_code (some .long) 0 tb_73 = true := by decide +kernel
theorem cb_74_0 : chkB ⟨"FerryChange", "count", "(I)I"⟩ prog_1_method_37_code (some .int) 0 tb_74_0 = true := by decide +kernel
theorem cb_74_1 : chkB ⟨"FerryChange", "count", "(I)I"⟩ prog_1_method_37_code (some .int) 64 tb_74_1 = true := by decide +kernel
theorem cb_74_2 : chkB ⟨"FerryChange", "count", "(I)I"⟩ prog_1_method_37_code (some .int) 128 tb_74_2 = true := by decide +kernel
theorem cb_74 : chkB ⟨"FerryChange", "count", "(I)I"⟩ prog_1_method_37_code (some .int) 0 tb_74 = true := (chkB_app cb_74_0 rfl (chkB_app cb_74_1 rfl cb_74_2))
theorem cb_75 : chkB ⟨"FerryChange", "finding", "()I"⟩ prog_1_method_38_code (some .int) 0 tb_75 = true := by decide +kernel
theorem cb_76 : chkB ⟨"FerryChange", "findings", "(I)I"⟩ prog_1_method_39_code (some .int) 0 tb_76 = true := by decide +kernel
theorem cb_77_0 : chkB ⟨"FerryChange", "digest", "()J"⟩ prog_1_method_40_code (some .long) 0 tb_77_0 = true := by decide +kernel
theorem cb_77_1 : chkB ⟨"FerryChange", "digest", "()J"⟩ prog_1_method_40_code (some .long) 64 tb_77_1 = true := by decide +kernel
theorem cb_77_2 : chkB ⟨"FerryChange", "digest", "()J"⟩ prog_1_method_40_code (some .long) 128 tb_77_2 = true := by decide +kernel
theorem cb_77_3 : chkB ⟨"FerryChange", "digest", "()J"⟩ prog_1_method_40_code (some .long) 192 tb_77_3 = true := by decide +kernel
theorem cb_77 : chkB ⟨"FerryChange", "digest", "()J"⟩ prog_1_method_40_code (some .long) 0 tb_77 = true := (chkB_app cb_77_0 rfl (chkB_app cb_77_1 rfl (chkB_app cb_77_2 rfl cb_77_3)))
theorem cb_78 : chkB ⟨"FerryChange", "isRow", "(I)Z"⟩ prog_1_method_41_code (some .boolean) 0 tb_78 = true := by decide +kernel
theorem cb_79 : chkB ⟨"FerryChange", "isText", "(I)Z"⟩ prog_1_method_42_code (some .boolean) 0 tb_79 = true := by decide +kernel
theorem cb_80 : chkB ⟨"FerryChange", "isPlaceKept", "(I)Z"⟩ prog_1_method_43_code (some .boolean) 0 tb_80 = true := by decide +kernel
theorem cb_81 : chkB ⟨"FerryChange", "isDeclaration", "(I)Z"⟩ prog_1_method_44_code (some .boolean) 0 tb_81 = true := by decide +kernel
theorem cb_82 : chkB ⟨"FerryChange", "isPassenger", "(I)Z"⟩ prog_1_method_45_code (some .boolean) 0 tb_82 = true := by decide +kernel
theorem cb_83 : chkB ⟨"FerryChange", "answerFinding", "(I)I"⟩ prog_1_method_46_code (some .int) 0 tb_83 = true := by decide +kernel
theorem cb_84 : chkB ⟨"FerryChange", "refusalOfPlace", "(LFerryChange$Row;I)I"⟩ prog_1_method_47_code (some .int) 0 tb_84 = true := by decide +kernel
theorem cb_85_0 : chkB ⟨"FerryChange", "refusalOfRow", "(LFerryChange$Row;IIII)I"⟩ prog_1_method_48_code (some .int) 0 tb_85_0 = true := by decide +kernel
theorem cb_85_1 : chkB ⟨"FerryChange", "refusalOfRow", "(LFerryChange$Row;IIII)I"⟩ prog_1_method_48_code (some .int) 64 tb_85_1 = true := by decide +kernel
theorem cb_85 : chkB ⟨"FerryChange", "refusalOfRow", "(LFerryChange$Row;IIII)I"⟩ prog_1_method_48_code (some .int) 0 tb_85 = true := (chkB_app cb_85_0 rfl cb_85_1)
theorem cb_86_0 : chkB ⟨"FerryChange", "refusalOfPairs", "(LFerryChange$Row;)I"⟩ prog_1_method_49_code (some .int) 0 tb_86_0 = true := by decide +kernel
theorem cb_86_1 : chkB ⟨"FerryChange", "refusalOfPairs", "(LFerryChange$Row;)I"⟩ prog_1_method_49_code (some .int) 64 tb_86_1 = true := by decide +kernel
theorem cb_86 : chkB ⟨"FerryChange", "refusalOfPairs", "(LFerryChange$Row;)I"⟩ prog_1_method_49_code (some .int) 0 tb_86 = true := (chkB_app cb_86_0 rfl cb_86_1)
theorem cb_87_0 : chkB ⟨"FerryChange", "placeOfFault", "(LFerryChange$Row;)I"⟩ prog_1_method_50_code (some .int) 0 tb_87_0 = true := by decide +kernel
theorem cb_87_1 : chkB ⟨"FerryChange", "placeOfFault", "(LFerryChange$Row;)I"⟩ prog_1_method_50_code (some .int) 64 tb_87_1 = true := by decide +kernel
theorem cb_87 : chkB ⟨"FerryChange", "placeOfFault", "(LFerryChange$Row;)I"⟩ prog_1_method_50_code (some .int) 0 tb_87 = true := (chkB_app cb_87_0 rfl cb_87_1)
theorem cb_88 : chkB ⟨"FerryChange", "isSignOfItem", "(II)Z"⟩ prog_1_method_51_code (some .boolean) 0 tb_88 = true := by decide +kernel
theorem cb_89 : chkB ⟨"FerryChange", "boardAll", "(LFerryChange$Row;)V"⟩ prog_1_method_52_code none 0 tb_89 = true := by decide +kernel
theorem cb_90_0 : chkB ⟨"FerryChange", "boardOne", "(LFerryChange$Row;I)V"⟩ prog_1_method_53_code none 0 tb_90_0 = true := by decide +kernel
theorem cb_90_1 : chkB ⟨"FerryChange", "boardOne", "(LFerryChange$Row;I)V"⟩ prog_1_method_53_code none 64 tb_90_1 = true := by decide +kernel
theorem cb_90 : chkB ⟨"FerryChange", "boardOne", "(LFerryChange$Row;I)V"⟩ prog_1_method_53_code none 0 tb_90 = true := (chkB_app cb_90_0 rfl cb_90_1)
theorem cb_91_0 : chkB ⟨"FerryChange", "knownOf", "(II)I"⟩ prog_1_method_54_code (some .int) 0 tb_91_0 = true := by decide +kernel
theorem cb_91_1 : chkB ⟨"FerryChange", "knownOf", "(II)I"⟩ prog_1_method_54_code (some .int) 64 tb_91_1 = true := by decide +kernel
theorem cb_91 : chkB ⟨"FerryChange", "knownOf", "(II)I"⟩ prog_1_method_54_code (some .int) 0 tb_91 = true := (chkB_app cb_91_0 rfl cb_91_1)
theorem cb_92 : chkB ⟨"FerryChange", "howManyThere", "([LFerryChange$Row;)I"⟩ prog_1_method_55_code (some .int) 0 tb_92 = true := by decide +kernel
theorem cb_93 : chkB ⟨"FerryChange", "howManyKept", "()I"⟩ prog_1_method_56_code (some .int) 0 tb_93 = true := by decide +kernel
theorem cb_94 : chkB ⟨"FerryChange", "tell", "(JJ)V"⟩ prog_1_method_57_code none 0 tb_94 = true := by decide +kernel
theorem cb_95 : chkB ⟨"FerryChange", "greatestShared", "(JJ)J"⟩ prog_1_method_58_code (some .long) 0 tb_95 = true := by decide +kernel
theorem cb_96_0 : chkB ⟨"FerryChange", "isFound", "(LFerryChange$Search;III)Z"⟩ prog_1_method_59_code (some .boolean) 0 tb_96_0 = true := by decide +kernel
theorem cb_96_1 : chkB ⟨"FerryChange", "isFound", "(LFerryChange$Search;III)Z"⟩ prog_1_method_59_code (some .boolean) 64 tb_96_1 = true := by decide +kernel
theorem cb_96_2 : chkB ⟨"FerryChange", "isFound", "(LFerryChange$Search;III)Z"⟩ prog_1_method_59_code (some .boolean) 128 tb_96_2 = true := by decide +kernel
theorem cb_96 : chkB ⟨"FerryChange", "isFound", "(LFerryChange$Search;III)Z"⟩ prog_1_method_59_code (some .boolean) 0 tb_96 = true := (chkB_app cb_96_0 rfl (chkB_app cb_96_1 rfl cb_96_2))
theorem cb_97_0 : chkB ⟨"FerryChange", "livesNewlyFound", "(II)I"⟩ prog_1_method_60_code (some .int) 0 tb_97_0 = true := by decide +kernel
theorem cb_97_1 : chkB ⟨"FerryChange", "livesNewlyFound", "(II)I"⟩ prog_1_method_60_code (some .int) 64 tb_97_1 = true := by decide +kernel
theorem cb_97 : chkB ⟨"FerryChange", "livesNewlyFound", "(II)I"⟩ prog_1_method_60_code (some .int) 0 tb_97 = true := (chkB_app cb_97_0 rfl cb_97_1)
theorem cb_98 : chkB ⟨"FerryChange", "mostTogether", "(IIII)I"⟩ prog_1_method_61_code (some .int) 0 tb_98 = true := by decide +kernel
theorem cb_99 : chkB ⟨"FerryChange", "kindsThatFit", "(ILFerryChange$Row;)I"⟩ prog_1_method_62_code (some .int) 0 tb_99 = true := by decide +kernel
theorem cb_100_0 : chkB ⟨"FerryChange", "fits", "(IILFerryChange$Row;)Z"⟩ prog_1_method_63_code (some .boolean) 0 tb_100_0 = true := by decide +kernel
theorem cb_100_1 : chkB ⟨"FerryChange", "fits", "(IILFerryChange$Row;)Z"⟩ prog_1_method_63_code (some .boolean) 64 tb_100_1 = true := by decide +kernel
theorem cb_100 : chkB ⟨"FerryChange", "fits", "(IILFerryChange$Row;)Z"⟩ prog_1_method_63_code (some .boolean) 0 tb_100 = true := (chkB_app cb_100_0 rfl cb_100_1)
theorem cb_101_0 : chkB ⟨"FerryChange", "greatestPart", "(III)I"⟩ prog_1_method_64_code (some .int) 0 tb_101_0 = true := by decide +kernel
theorem cb_101_1 : chkB ⟨"FerryChange", "greatestPart", "(III)I"⟩ prog_1_method_64_code (some .int) 64 tb_101_1 = true := by decide +kernel
theorem cb_101 : chkB ⟨"FerryChange", "greatestPart", "(III)I"⟩ prog_1_method_64_code (some .int) 0 tb_101 = true := (chkB_app cb_101_0 rfl cb_101_1)
theorem cb_102 : chkB ⟨"FerryChange", "fewestBoatsOf", "(II)I"⟩ prog_1_method_65_code (some .int) 0 tb_102 = true := by decide +kernel
theorem cb_103 : chkB ⟨"FerryChange", "firstBoat", "(II)I"⟩ prog_1_method_66_code (some .int) 0 tb_103 = true := by decide +kernel
theorem cb_104 : chkB ⟨"FerryChange", "isBoat", "(IIII)Z"⟩ prog_1_method_67_code (some .boolean) 0 tb_104 = true := by decide +kernel
theorem cb_105_0 : chkB ⟨"FerryChange", "answerChances", "(IIIZ)I"⟩ prog_1_method_68_code (some .int) 0 tb_105_0 = true := by decide +kernel
theorem cb_105_1 : chkB ⟨"FerryChange", "answerChances", "(IIIZ)I"⟩ prog_1_method_68_code (some .int) 64 tb_105_1 = true := by decide +kernel
theorem cb_105 : chkB ⟨"FerryChange", "answerChances", "(IIIZ)I"⟩ prog_1_method_68_code (some .int) 0 tb_105 = true := (chkB_app cb_105_0 rfl cb_105_1)
theorem cb_106_0 : chkB ⟨"FerryChange", "tellChances", "(ILFerryChange$Row;IZ)V"⟩ prog_1_method_69_code none 0 tb_106_0 = true := by decide +kernel
theorem cb_106_1 : chkB ⟨"FerryChange", "tellChances", "(ILFerryChange$Row;IZ)V"⟩ prog_1_method_69_code none 64 tb_106_1 = true := by decide +kernel
theorem cb_106 : chkB ⟨"FerryChange", "tellChances", "(ILFerryChange$Row;IZ)V"⟩ prog_1_method_69_code none 0 tb_106 = true := (chkB_app cb_106_0 rfl cb_106_1)
theorem cb_107_0 : chkB ⟨"FerryChange", "weighedEnd", "(ILFerryChange$Row;IIZ)J"⟩ prog_1_method_70_code (some .long) 0 tb_107_0 = true := by decide +kernel
theorem cb_107_1 : chkB ⟨"FerryChange", "weighedEnd", "(ILFerryChange$Row;IIZ)J"⟩ prog_1_method_70_code (some .long) 64 tb_107_1 = true := by decide +kernel
theorem cb_107_2 : chkB ⟨"FerryChange", "weighedEnd", "(ILFerryChange$Row;IIZ)J"⟩ prog_1_method_70_code (some .long) 128 tb_107_2 = true := by decide +kernel
theorem cb_107 : chkB ⟨"FerryChange", "weighedEnd", "(ILFerryChange$Row;IIZ)J"⟩ prog_1_method_70_code (some .long) 0 tb_107 = true := (chkB_app cb_107_0 rfl (chkB_app cb_107_1 rfl cb_107_2))
theorem cb_108_0 : chkB ⟨"FerryChangeModel", "<init>", "()V"⟩ prog_8_method_1_code none 0 tb_108_0 = true := by decide +kernel
theorem cb_108_1 : chkB ⟨"FerryChangeModel", "<init>", "()V"⟩ prog_8_method_1_code none 64 tb_108_1 = true := by decide +kernel
theorem cb_108_2 : chkB ⟨"FerryChangeModel", "<init>", "()V"⟩ prog_8_method_1_code none 128 tb_108_2 = true := by decide +kernel
theorem cb_108 : chkB ⟨"FerryChangeModel", "<init>", "()V"⟩ prog_8_method_1_code none 0 tb_108 = true := (chkB_app cb_108_0 rfl (chkB_app cb_108_1 rfl cb_108_2))
theorem cb_109 : chkB ⟨"FerryChangeModel", "in", "(III)Z"⟩ prog_8_method_3_code (some .boolean) 0 tb_109 = true := by decide +kernel
theorem cb_110 : chkB ⟨"FerryChangeModel", "bits", "(I)I"⟩ prog_8_method_4_code (some .int) 0 tb_110 = true := by decide +kernel
theorem cb_111 : chkB ⟨"FerryChangeModel", "bring", "([II[III)V"⟩ prog_8_method_5_code none 0 tb_111 = true := by decide +kernel
theorem cb_112 : chkB ⟨"FerryChangeModel", "found", "(I)I"⟩ prog_8_method_6_code (some .int) 0 tb_112 = true := by decide +kernel
theorem cb_113 : chkB ⟨"FerryChangeModel", "tells", "(II)I"⟩ prog_8_method_7_code (some .int) 0 tb_113 = true := by decide +kernel
theorem cb_114 : chkB ⟨"FerryChangeModel", "isOne", "(I)Z"⟩ prog_8_method_8_code (some .boolean) 0 tb_114 = true := by decide +kernel
theorem cb_115 : chkB ⟨"FerryChangeModel", "isRow", "(I)Z"⟩ prog_8_method_9_code (some .boolean) 0 tb_115 = true := by decide +kernel
theorem cb_116 : chkB ⟨"FerryChangeModel", "isText", "(I)Z"⟩ prog_8_method_10_code (some .boolean) 0 tb_116 = true := by decide +kernel
theorem cb_117 : chkB ⟨"FerryChangeModel", "makesRow", "(II)V"⟩ prog_8_method_11_code none 0 tb_117 = true := by decide +kernel
theorem cb_118 : chkB ⟨"FerryChangeModel", "row", "(II)I"⟩ prog_8_method_12_code (some .int) 0 tb_118 = true := by decide +kernel
theorem cb_119 : chkB ⟨"FerryChangeModel", "placeOf", "(II)I"⟩ prog_8_method_13_code (some .int) 0 tb_119 = true := by decide +kernel
theorem cb_120 : chkB ⟨"FerryChangeModel", "lay", "(III)I"⟩ prog_8_method_14_code (some .int) 0 tb_120 = true := by decide +kernel
theorem cb_121 : chkB ⟨"FerryChangeModel", "at", "(II)I"⟩ prog_8_method_15_code (some .int) 0 tb_121 = true := by decide +kernel
theorem cb_122 : chkB ⟨"FerryChangeModel", "tear", "(I)I"⟩ prog_8_method_16_code (some .int) 0 tb_122 = true := by decide +kernel
theorem cb_123_0 : chkB ⟨"FerryChangeModel", "copy", "(IIIII)I"⟩ prog_8_method_17_code (some .int) 0 tb_123_0 = true := by decide +kernel
theorem cb_123_1 : chkB ⟨"FerryChangeModel", "copy", "(IIIII)I"⟩ prog_8_method_17_code (some .int) 64 tb_123_1 = true := by decide +kernel
theorem cb_123_2 : chkB ⟨"FerryChangeModel", "copy", "(IIIII)I"⟩ prog_8_method_17_code (some .int) 128 tb_123_2 = true := by decide +kernel
theorem cb_123 : chkB ⟨"FerryChangeModel", "copy", "(IIIII)I"⟩ prog_8_method_17_code (some .int) 0 tb_123 = true := (chkB_app cb_123_0 rfl (chkB_app cb_123_1 rfl cb_123_2))
theorem cb_124_0 : chkB ⟨"FerryChangeModel", "mean", "(I)I"⟩ prog_8_method_18_code (some .int) 0 tb_124_0 = true := by decide +kernel
theorem cb_124_1 : chkB ⟨"FerryChangeModel", "mean", "(I)I"⟩ prog_8_method_18_code (some .int) 64 tb_124_1 = true := by decide +kernel
theorem cb_124 : chkB ⟨"FerryChangeModel", "mean", "(I)I"⟩ prog_8_method_18_code (some .int) 0 tb_124 = true := (chkB_app cb_124_0 rfl cb_124_1)
theorem cb_125 : chkB ⟨"FerryChangeModel", "text", "(II)I"⟩ prog_8_method_19_code (some .int) 0 tb_125 = true := by decide +kernel
theorem cb_126_0 : chkB ⟨"FerryChangeModel", "put", "(III)I"⟩ prog_8_method_20_code (some .int) 0 tb_126_0 = true := by decide +kernel
theorem cb_126_1 : chkB ⟨"FerryChangeModel", "put", "(III)I"⟩ prog_8_method_20_code (some .int) 64 tb_126_1 = true := by decide +kernel
theorem cb_126 : chkB ⟨"FerryChangeModel", "put", "(III)I"⟩ prog_8_method_20_code (some .int) 0 tb_126 = true := (chkB_app cb_126_0 rfl cb_126_1)
theorem cb_127_0 : chkB ⟨"FerryChangeModel", "kindBy", "(I)I"⟩ prog_8_method_21_code (some .int) 0 tb_127_0 = true := by decide +kernel
theorem cb_127_1 : chkB ⟨"FerryChangeModel", "kindBy", "(I)I"⟩ prog_8_method_21_code (some .int) 64 tb_127_1 = true := by decide +kernel
theorem cb_127 : chkB ⟨"FerryChangeModel", "kindBy", "(I)I"⟩ prog_8_method_21_code (some .int) 0 tb_127 = true := (chkB_app cb_127_0 rfl cb_127_1)
theorem cb_128_0 : chkB ⟨"FerryChangeModel", "reading", "(I)I"⟩ prog_8_method_22_code (some .int) 0 tb_128_0 = true := by decide +kernel
theorem cb_128_1 : chkB ⟨"FerryChangeModel", "reading", "(I)I"⟩ prog_8_method_22_code (some .int) 64 tb_128_1 = true := by decide +kernel
theorem cb_128_2 : chkB ⟨"FerryChangeModel", "reading", "(I)I"⟩ prog_8_method_22_code (some .int) 128 tb_128_2 = true := by decide +kernel
theorem cb_128_3 : chkB ⟨"FerryChangeModel", "reading", "(I)I"⟩ prog_8_method_22_code (some .int) 192 tb_128_3 = true := by decide +kernel
theorem cb_128_4 : chkB ⟨"FerryChangeModel", "reading", "(I)I"⟩ prog_8_method_22_code (some .int) 256 tb_128_4 = true := by decide +kernel
theorem cb_128 : chkB ⟨"FerryChangeModel", "reading", "(I)I"⟩ prog_8_method_22_code (some .int) 0 tb_128 = true := (chkB_app cb_128_0 rfl (chkB_app cb_128_1 rfl (chkB_app cb_128_2 rfl (chkB_app cb_128_3 rfl cb_128_4))))
theorem cb_129 : chkB ⟨"FerryChangeModel", "fault", "(I)I"⟩ prog_8_method_23_code (some .int) 0 tb_129 = true := by decide +kernel
theorem cb_130_0 : chkB ⟨"FerryChangeModel", "ferry", "(I)I"⟩ prog_8_method_24_code (some .int) 0 tb_130_0 = true := by decide +kernel
theorem cb_130_1 : chkB ⟨"FerryChangeModel", "ferry", "(I)I"⟩ prog_8_method_24_code (some .int) 64 tb_130_1 = true := by decide +kernel
theorem cb_130 : chkB ⟨"FerryChangeModel", "ferry", "(I)I"⟩ prog_8_method_24_code (some .int) 0 tb_130 = true := (chkB_app cb_130_0 rfl cb_130_1)
theorem cb_131 : chkB ⟨"FerryChangeModel", "whichBy", "(II)I"⟩ prog_8_method_25_code (some .int) 0 tb_131 = true := by decide +kernel
theorem cb_132_0 : chkB ⟨"FerryChangeModel", "changeBy", "(III)I"⟩ prog_8_method_26_code (some .int) 0 tb_132_0 = true := by decide +kernel
theorem cb_132_1 : chkB ⟨"FerryChangeModel", "changeBy", "(III)I"⟩ prog_8_method_26_code (some .int) 64 tb_132_1 = true := by decide +kernel
theorem cb_132 : chkB ⟨"FerryChangeModel", "changeBy", "(III)I"⟩ prog_8_method_26_code (some .int) 0 tb_132 = true := (chkB_app cb_132_0 rfl cb_132_1)
theorem cb_133 : chkB ⟨"FerryChangeModel", "mayLand", "([III)Z"⟩ prog_8_method_27_code (some .boolean) 0 tb_133 = true := by decide +kernel
theorem cb_134_0 : chkB ⟨"FerryChangeModel", "crosses", "([III)Z"⟩ prog_8_method_28_code (some .boolean) 0 tb_134_0 = true := by decide +kernel
theorem cb_134_1 : chkB ⟨"FerryChangeModel", "crosses", "([III)Z"⟩ prog_8_method_28_code (some .boolean) 64 tb_134_1 = true := by decide +kernel
theorem cb_134 : chkB ⟨"FerryChangeModel", "crosses", "([III)Z"⟩ prog_8_method_28_code (some .boolean) 0 tb_134 = true := (chkB_app cb_134_0 rfl cb_134_1)
theorem cb_135 : chkB ⟨"FerryChangeModel", "togetherOf", "([II)I"⟩ prog_8_method_29_code (some .int) 0 tb_135 = true := by decide +kernel
theorem cb_136 : chkB ⟨"FerryChangeModel", "lifeOf", "([II)I"⟩ prog_8_method_30_code (some .int) 0 tb_136 = true := by decide +kernel
theorem cb_137 : chkB ⟨"FerryChangeModel", "isA", "(II)Z"⟩ prog_8_method_31_code (some .boolean) 0 tb_137 = true := by decide +kernel
theorem cb_138 : chkB ⟨"FerryChangeModel", "weightOf", "(I)I"⟩ prog_8_method_32_code (some .int) 0 tb_138 = true := by decide +kernel
theorem cb_139 : chkB ⟨"FerryChangeModel", "landsBy", "(I)I"⟩ prog_8_method_33_code (some .int) 0 tb_139 = true := by decide +kernel
theorem cb_140_0 : chkB ⟨"FerryChangeModel", "passengerOf", "(II)I"⟩ prog_8_method_34_code (some .int) 0 tb_140_0 = true := by decide +kernel
theorem cb_140_1 : chkB ⟨"FerryChangeModel", "passengerOf", "(II)I"⟩ prog_8_method_34_code (some .int) 64 tb_140_1 = true := by decide +kernel
theorem cb_140 : chkB ⟨"FerryChangeModel", "passengerOf", "(II)I"⟩ prog_8_method_34_code (some .int) 0 tb_140 = true := (chkB_app cb_140_0 rfl cb_140_1)
theorem cb_141 : chkB ⟨"FerryChangeModel", "passenger", "(II)I"⟩ prog_8_method_35_code (some .int) 0 tb_141 = true := by decide +kernel
theorem cb_142 : chkB ⟨"FerryChangeModel", "besides", "(I)I"⟩ prog_8_method_36_code (some .int) 0 tb_142 = true := by decide +kernel
theorem cb_143 : chkB ⟨"FerryChangeModel", "leastThing", "(I)I"⟩ prog_8_method_37_code (some .int) 0 tb_143 = true := by decide +kernel
theorem cb_144_0 : chkB ⟨"FerryChangeModel", "mark", "(II)I"⟩ prog_8_method_38_code (some .int) 0 tb_144_0 = true := by decide +kernel
theorem cb_144_1 : chkB ⟨"FerryChangeModel", "mark", "(II)I"⟩ prog_8_method_38_code (some .int) 64 tb_144_1 = true := by decide +kernel
theorem cb_144 : chkB ⟨"FerryChangeModel", "mark", "(II)I"⟩ prog_8_method_38_code (some .int) 0 tb_144 = true := (chkB_app cb_144_0 rfl cb_144_1)
theorem cb_145 : chkB ⟨"FerryChangeModel", "notes", "()V"⟩ prog_8_method_39_code none 0 tb_145 = true := by decide +kernel
theorem cb_146 : chkB ⟨"FerryChangeModel", "cross", "(II)I"⟩ prog_8_method_40_code (some .int) 0 tb_146 = true := by decide +kernel
theorem cb_147_0 : chkB ⟨"FerryChangeModel", "set", "(III)I"⟩ prog_8_method_41_code (some .int) 0 tb_147_0 = true := by decide +kernel
theorem cb_147_1 : chkB ⟨"FerryChangeModel", "set", "(III)I"⟩ prog_8_method_41_code (some .int) 64 tb_147_1 = true := by decide +kernel
theorem cb_147 : chkB ⟨"FerryChangeModel", "set", "(III)I"⟩ prog_8_method_41_code (some .int) 0 tb_147 = true := (chkB_app cb_147_0 rfl cb_147_1)
theorem cb_148 : chkB ⟨"FerryChangeModel", "undo", "(I)I"⟩ prog_8_method_42_code (some .int) 0 tb_148 = true := by decide +kernel
theorem cb_149_0 : chkB ⟨"FerryChangeModel", "keep", "(I)I"⟩ prog_8_method_43_code (some .int) 0 tb_149_0 = true := by decide +kernel
theorem cb_149_1 : chkB ⟨"FerryChangeModel", "keep", "(I)I"⟩ prog_8_method_43_code (some .int) 64 tb_149_1 = true := by decide +kernel
theorem cb_149 : chkB ⟨"FerryChangeModel", "keep", "(I)I"⟩ prog_8_method_43_code (some .int) 0 tb_149 = true := (chkB_app cb_149_0 rfl cb_149_1)
theorem cb_150_0 : chkB ⟨"FerryChangeModel", "on", "(I)I"⟩ prog_8_method_44_code (some .int) 0 tb_150_0 = true := by decide +kernel
theorem cb_150_1 : chkB ⟨"FerryChangeModel", "on", "(I)I"⟩ prog_8_method_44_code (some .int) 64 tb_150_1 = true := by decide +kernel
theorem cb_150 : chkB ⟨"FerryChangeModel", "on", "(I)I"⟩ prog_8_method_44_code (some .int) 0 tb_150 = true := (chkB_app cb_150_0 rfl cb_150_1)
theorem cb_151 : chkB ⟨"FerryChangeModel", "asItIs", "()V"⟩ prog_8_method_45_code none 0 tb_151 = true := by decide +kernel
theorem cb_152 : chkB ⟨"FerryChangeModel", "changes", "(III)I"⟩ prog_8_method_46_code (some .int) 0 tb_152 = true := by decide +kernel
theorem cb_153_0 : chkB ⟨"FerryChangeModel", "rowFound", "(IIIII)I"⟩ prog_8_method_47_code (some .int) 0 tb_153_0 = true := by decide +kernel
theorem cb_153_1 : chkB ⟨"FerryChangeModel", "rowFound", "(IIIII)I"⟩ prog_8_method_47_code (some .int) 64 tb_153_1 = true := by decide +kernel
theorem cb_153 : chkB ⟨"FerryChangeModel", "rowFound", "(IIIII)I"⟩ prog_8_method_47_code (some .int) 0 tb_153 = true := (chkB_app cb_153_0 rfl cb_153_1)
theorem cb_154_0 : chkB ⟨"FerryChangeModel", "run", "(II)I"⟩ prog_8_method_48_code (some .int) 0 tb_154_0 = true := by decide +kernel
theorem cb_154_1 : chkB ⟨"FerryChangeModel", "run", "(II)I"⟩ prog_8_method_48_code (some .int) 64 tb_154_1 = true := by decide +kernel
theorem cb_154 : chkB ⟨"FerryChangeModel", "run", "(II)I"⟩ prog_8_method_48_code (some .int) 0 tb_154 = true := (chkB_app cb_154_0 rfl cb_154_1)
theorem cb_155_0 : chkB ⟨"FerryChangeModel", "isLife", "([III)Z"⟩ prog_8_method_49_code (some .boolean) 0 tb_155_0 = true := by decide +kernel
theorem cb_155_1 : chkB ⟨"FerryChangeModel", "isLife", "([III)Z"⟩ prog_8_method_49_code (some .boolean) 64 tb_155_1 = true := by decide +kernel
theorem cb_155 : chkB ⟨"FerryChangeModel", "isLife", "([III)Z"⟩ prog_8_method_49_code (some .boolean) 0 tb_155 = true := (chkB_app cb_155_0 rfl cb_155_1)
theorem cb_156 : chkB ⟨"FerryChangeModel", "codesOf", "(I)I"⟩ prog_8_method_50_code (some .int) 0 tb_156 = true := by decide +kernel
theorem cb_157 : chkB ⟨"FerryChangeModel", "crossesBy", "(III)V"⟩ prog_8_method_51_code none 0 tb_157 = true := by decide +kernel
theorem cb_158_0 : chkB ⟨"FerryChangeModel", "fewest", "(IIII)I"⟩ prog_8_method_52_code (some .int) 0 tb_158_0 = true := by decide +kernel
theorem cb_158_1 : chkB ⟨"FerryChangeModel", "fewest", "(IIII)I"⟩ prog_8_method_52_code (some .int) 64 tb_158_1 = true := by decide +kernel
theorem cb_158_2 : chkB ⟨"FerryChangeModel", "fewest", "(IIII)I"⟩ prog_8_method_52_code (some .int) 128 tb_158_2 = true := by decide +kernel
theorem cb_158 : chkB ⟨"FerryChangeModel", "fewest", "(IIII)I"⟩ prog_8_method_52_code (some .int) 0 tb_158 = true := (chkB_app cb_158_0 rfl (chkB_app cb_158_1 rfl cb_158_2))
theorem cb_159 : chkB ⟨"FerryChangeModel", "tellsPart", "(JJ)I"⟩ prog_8_method_53_code (some .int) 0 tb_159 = true := by decide +kernel
theorem cb_160_0 : chkB ⟨"FerryChangeModel", "lives", "(II)I"⟩ prog_8_method_54_code (some .int) 0 tb_160_0 = true := by decide +kernel
theorem cb_160_1 : chkB ⟨"FerryChangeModel", "lives", "(II)I"⟩ prog_8_method_54_code (some .int) 64 tb_160_1 = true := by decide +kernel
theorem cb_160_2 : chkB ⟨"FerryChangeModel", "lives", "(II)I"⟩ prog_8_method_54_code (some .int) 128 tb_160_2 = true := by decide +kernel
theorem cb_160 : chkB ⟨"FerryChangeModel", "lives", "(II)I"⟩ prog_8_method_54_code (some .int) 0 tb_160 = true := (chkB_app cb_160_0 rfl (chkB_app cb_160_1 rfl cb_160_2))
theorem cb_161_0 : chkB ⟨"FerryChangeModel", "declared", "(II)I"⟩ prog_8_method_55_code (some .int) 0 tb_161_0 = true := by decide +kernel
theorem cb_161_1 : chkB ⟨"FerryChangeModel", "declared", "(II)I"⟩ prog_8_method_55_code (some .int) 64 tb_161_1 = true := by decide +kernel
theorem cb_161 : chkB ⟨"FerryChangeModel", "declared", "(II)I"⟩ prog_8_method_55_code (some .int) 0 tb_161 = true := (chkB_app cb_161_0 rfl cb_161_1)
theorem cb_162_0 : chkB ⟨"FerryChangeModel", "pairsFound", "(I)I"⟩ prog_8_method_56_code (some .int) 0 tb_162_0 = true := by decide +kernel
theorem cb_162_1 : chkB ⟨"FerryChangeModel", "pairsFound", "(I)I"⟩ prog_8_method_56_code (some .int) 64 tb_162_1 = true := by decide +kernel
theorem cb_162 : chkB ⟨"FerryChangeModel", "pairsFound", "(I)I"⟩ prog_8_method_56_code (some .int) 0 tb_162 = true := (chkB_app cb_162_0 rfl cb_162_1)
theorem cb_163_0 : chkB ⟨"FerryChangeModel", "kindsOf", "(II)I"⟩ prog_8_method_57_code (some .int) 0 tb_163_0 = true := by decide +kernel
theorem cb_163_1 : chkB ⟨"FerryChangeModel", "kindsOf", "(II)I"⟩ prog_8_method_57_code (some .int) 64 tb_163_1 = true := by decide +kernel
theorem cb_163_2 : chkB ⟨"FerryChangeModel", "kindsOf", "(II)I"⟩ prog_8_method_57_code (some .int) 128 tb_163_2 = true := by decide +kernel
theorem cb_163 : chkB ⟨"FerryChangeModel", "kindsOf", "(II)I"⟩ prog_8_method_57_code (some .int) 0 tb_163 = true := (chkB_app cb_163_0 rfl (chkB_app cb_163_1 rfl cb_163_2))
theorem cb_164 : chkB ⟨"FerryChangeModel", "kinds", "(II)I"⟩ prog_8_method_58_code (some .int) 0 tb_164 = true := by decide +kernel
theorem cb_165_0 : chkB ⟨"FerryChangeModel", "greatest", "(III)I"⟩ prog_8_method_59_code (some .int) 0 tb_165_0 = true := by decide +kernel
theorem cb_165_1 : chkB ⟨"FerryChangeModel", "greatest", "(III)I"⟩ prog_8_method_59_code (some .int) 64 tb_165_1 = true := by decide +kernel
theorem cb_165_2 : chkB ⟨"FerryChangeModel", "greatest", "(III)I"⟩ prog_8_method_59_code (some .int) 128 tb_165_2 = true := by decide +kernel
theorem cb_165 : chkB ⟨"FerryChangeModel", "greatest", "(III)I"⟩ prog_8_method_59_code (some .int) 0 tb_165 = true := (chkB_app cb_165_0 rfl (chkB_app cb_165_1 rfl cb_165_2))
theorem cb_166_0 : chkB ⟨"FerryChangeModel", "next", "(II)I"⟩ prog_8_method_60_code (some .int) 0 tb_166_0 = true := by decide +kernel
theorem cb_166_1 : chkB ⟨"FerryChangeModel", "next", "(II)I"⟩ prog_8_method_60_code (some .int) 64 tb_166_1 = true := by decide +kernel
theorem cb_166 : chkB ⟨"FerryChangeModel", "next", "(II)I"⟩ prog_8_method_60_code (some .int) 0 tb_166 = true := (chkB_app cb_166_0 rfl cb_166_1)
theorem cb_167 : chkB ⟨"FerryChangeModel", "weightsOf", "(I)I"⟩ prog_8_method_61_code (some .int) 0 tb_167 = true := by decide +kernel
theorem cb_168_0 : chkB ⟨"FerryChangeModel", "boats", "(I)I"⟩ prog_8_method_62_code (some .int) 0 tb_168_0 = true := by decide +kernel
theorem cb_168_1 : chkB ⟨"FerryChangeModel", "boats", "(I)I"⟩ prog_8_method_62_code (some .int) 64 tb_168_1 = true := by decide +kernel
theorem cb_168_2 : chkB ⟨"FerryChangeModel", "boats", "(I)I"⟩ prog_8_method_62_code (some .int) 128 tb_168_2 = true := by decide +kernel
theorem cb_168_3 : chkB ⟨"FerryChangeModel", "boats", "(I)I"⟩ prog_8_method_62_code (some .int) 192 tb_168_3 = true := by decide +kernel
theorem cb_168 : chkB ⟨"FerryChangeModel", "boats", "(I)I"⟩ prog_8_method_62_code (some .int) 0 tb_168 = true := (chkB_app cb_168_0 rfl (chkB_app cb_168_1 rfl (chkB_app cb_168_2 rfl cb_168_3)))
theorem cb_169_0 : chkB ⟨"FerryChangeModel", "sets", "(I)I"⟩ prog_8_method_63_code (some .int) 0 tb_169_0 = true := by decide +kernel
theorem cb_169_1 : chkB ⟨"FerryChangeModel", "sets", "(I)I"⟩ prog_8_method_63_code (some .int) 64 tb_169_1 = true := by decide +kernel
theorem cb_169 : chkB ⟨"FerryChangeModel", "sets", "(I)I"⟩ prog_8_method_63_code (some .int) 0 tb_169 = true := (chkB_app cb_169_0 rfl cb_169_1)
theorem cb_170_0 : chkB ⟨"FerryChangeModel", "sure", "(I)I"⟩ prog_8_method_64_code (some .int) 0 tb_170_0 = true := by decide +kernel
theorem cb_170_1 : chkB ⟨"FerryChangeModel", "sure", "(I)I"⟩ prog_8_method_64_code (some .int) 64 tb_170_1 = true := by decide +kernel
theorem cb_170 : chkB ⟨"FerryChangeModel", "sure", "(I)I"⟩ prog_8_method_64_code (some .int) 0 tb_170 = true := (chkB_app cb_170_0 rfl cb_170_1)
theorem cb_171_0 : chkB ⟨"FerryChangeModel", "alike", "(II)I"⟩ prog_8_method_65_code (some .int) 0 tb_171_0 = true := by decide +kernel
theorem cb_171_1 : chkB ⟨"FerryChangeModel", "alike", "(II)I"⟩ prog_8_method_65_code (some .int) 64 tb_171_1 = true := by decide +kernel
theorem cb_171_2 : chkB ⟨"FerryChangeModel", "alike", "(II)I"⟩ prog_8_method_65_code (some .int) 128 tb_171_2 = true := by decide +kernel
theorem cb_171 : chkB ⟨"FerryChangeModel", "alike", "(II)I"⟩ prog_8_method_65_code (some .int) 0 tb_171 = true := (chkB_app cb_171_0 rfl (chkB_app cb_171_1 rfl cb_171_2))
theorem cb_172_0 : chkB ⟨"FerryChangeModel", "duel", "(III)I"⟩ prog_8_method_66_code (some .int) 0 tb_172_0 = true := by decide +kernel
theorem cb_172_1 : chkB ⟨"FerryChangeModel", "duel", "(III)I"⟩ prog_8_method_66_code (some .int) 64 tb_172_1 = true := by decide +kernel
theorem cb_172_2 : chkB ⟨"FerryChangeModel", "duel", "(III)I"⟩ prog_8_method_66_code (some .int) 128 tb_172_2 = true := by decide +kernel
theorem cb_172_3 : chkB ⟨"FerryChangeModel", "duel", "(III)I"⟩ prog_8_method_66_code (some .int) 192 tb_172_3 = true := by decide +kernel
theorem cb_172_4 : chkB ⟨"FerryChangeModel", "duel", "(III)I"⟩ prog_8_method_66_code (some .int) 256 tb_172_4 = true := by decide +kernel
theorem cb_172 : chkB ⟨"FerryChangeModel", "duel", "(III)I"⟩ prog_8_method_66_code (some .int) 0 tb_172 = true := (chkB_app cb_172_0 rfl (chkB_app cb_172_1 rfl (chkB_app cb_172_2 rfl (chkB_app cb_172_3 rfl cb_172_4))))
theorem cb_173_0 : chkB ⟨"FerryChangeModel", "failing", "(IIIZ)I"⟩ prog_8_method_67_code (some .int) 0 tb_173_0 = true := by decide +kernel
theorem cb_173_1 : chkB ⟨"FerryChangeModel", "failing", "(IIIZ)I"⟩ prog_8_method_67_code (some .int) 64 tb_173_1 = true := by decide +kernel
theorem cb_173_2 : chkB ⟨"FerryChangeModel", "failing", "(IIIZ)I"⟩ prog_8_method_67_code (some .int) 128 tb_173_2 = true := by decide +kernel
theorem cb_173 : chkB ⟨"FerryChangeModel", "failing", "(IIIZ)I"⟩ prog_8_method_67_code (some .int) 0 tb_173 = true := (chkB_app cb_173_0 rfl (chkB_app cb_173_1 rfl cb_173_2))
theorem cb_174 : chkB ⟨"FerryChangeModel", "odds", "(III)I"⟩ prog_8_method_68_code (some .int) 0 tb_174 = true := by decide +kernel
theorem cb_175 : chkB ⟨"FerryChangeModel", "mid", "(III)I"⟩ prog_8_method_69_code (some .int) 0 tb_175 = true := by decide +kernel
theorem cb_176 : chkB ⟨"FerryChangeModel", "across", "()I"⟩ prog_8_method_70_code (some .int) 0 tb_176 = true := by decide +kernel
theorem cb_177_0 : chkB ⟨"FerryChangeModel", "lots", "(II)I"⟩ prog_8_method_71_code (some .int) 0 tb_177_0 = true := by decide +kernel
theorem cb_177_1 : chkB ⟨"FerryChangeModel", "lots", "(II)I"⟩ prog_8_method_71_code (some .int) 64 tb_177_1 = true := by decide +kernel
theorem cb_177_2 : chkB ⟨"FerryChangeModel", "lots", "(II)I"⟩ prog_8_method_71_code (some .int) 128 tb_177_2 = true := by decide +kernel
theorem cb_177 : chkB ⟨"FerryChangeModel", "lots", "(II)I"⟩ prog_8_method_71_code (some .int) 0 tb_177 = true := (chkB_app cb_177_0 rfl (chkB_app cb_177_1 rfl cb_177_2))
theorem cb_178 : chkB ⟨"FerryChangeModel", "asked", "()I"⟩ prog_8_method_72_code (some .int) 0 tb_178 = true := by decide +kernel
theorem cb_179 : chkB ⟨"FerryChangeModel", "upper", "()J"⟩ prog_8_method_73_code (some .long) 0 tb_179 = true := by decide +kernel
theorem cb_180 : chkB ⟨"FerryChangeModel", "lower", "()J"⟩ prog_8_method_74_code (some .long) 0 tb_180 = true := by decide +kernel
theorem cb_181 : chkB ⟨"FerryChangeModel", "there", "([I)I"⟩ prog_8_method_75_code (some .int) 0 tb_181 = true := by decide +kernel
theorem cb_182 : chkB ⟨"FerryChangeModel", "keptMany", "()I"⟩ prog_8_method_76_code (some .int) 0 tb_182 = true := by decide +kernel
theorem cb_183 : chkB ⟨"FerryChangeModel", "those", "(I)I"⟩ prog_8_method_77_code (some .int) 0 tb_183 = true := by decide +kernel
theorem cb_184_0 : chkB ⟨"FerryChangeModel", "count", "(I)I"⟩ prog_8_method_78_code (some .int) 0 tb_184_0 = true := by decide +kernel
theorem cb_184_1 : chkB ⟨"FerryChangeModel", "count", "(I)I"⟩ prog_8_method_78_code (some .int) 64 tb_184_1 = true := by decide +kernel
theorem cb_184 : chkB ⟨"FerryChangeModel", "count", "(I)I"⟩ prog_8_method_78_code (some .int) 0 tb_184 = true := (chkB_app cb_184_0 rfl cb_184_1)
theorem cb_185 : chkB ⟨"FerryChangeModel", "finding", "()I"⟩ prog_8_method_79_code (some .int) 0 tb_185 = true := by decide +kernel
theorem cb_186 : chkB ⟨"FerryChangeModel", "findings", "(I)I"⟩ prog_8_method_80_code (some .int) 0 tb_186 = true := by decide +kernel
theorem cb_187_0 : chkB ⟨"FerryChangeModel", "digest", "()J"⟩ prog_8_method_81_code (some .long) 0 tb_187_0 = true := by decide +kernel
theorem cb_187_1 : chkB ⟨"FerryChangeModel", "digest", "()J"⟩ prog_8_method_81_code (some .long) 64 tb_187_1 = true := by decide +kernel
theorem cb_187_2 : chkB ⟨"FerryChangeModel", "digest", "()J"⟩ prog_8_method_81_code (some .long) 128 tb_187_2 = true := by decide +kernel
theorem cb_187_3 : chkB ⟨"FerryChangeModel", "digest", "()J"⟩ prog_8_method_81_code (some .long) 192 tb_187_3 = true := by decide +kernel
theorem cb_187_4 : chkB ⟨"FerryChangeModel", "digest", "()J"⟩ prog_8_method_81_code (some .long) 256 tb_187_4 = true := by decide +kernel
theorem cb_187 : chkB ⟨"FerryChangeModel", "digest", "()J"⟩ prog_8_method_81_code (some .long) 0 tb_187 = true := (chkB_app cb_187_0 rfl (chkB_app cb_187_1 rfl (chkB_app cb_187_2 rfl (chkB_app cb_187_3 rfl cb_187_4))))
theorem cb_188 : chkB ⟨"java/lang/Integer", "bitCount", "(I)I"⟩ prog_9_method_49_code (some .int) 0 tb_188 = true := by decide +kernel
theorem cb_189 : chkB ⟨"java/util/Arrays", "fill", "([II)V"⟩ prog_12_method_103_code none 0 tb_189 = true := by decide +kernel
