-- where the tables have the words of the methods
theorem am_tk1 {w : Cond} (h : w ∈ tables_1_1) (g : goodWord w = true) : w ∈ am_TW := List.mem_filter.mpr ⟨List.mem_append_right _ (show w ∈ tables_1 from List.mem_append_left _ h), g⟩
theorem am_tk2 {w : Cond} (h : w ∈ tables_1_2) (g : goodWord w = true) : w ∈ am_TW := List.mem_filter.mpr ⟨List.mem_append_right _ (show w ∈ tables_1 from List.mem_append_right _ (List.mem_append_left _ h)), g⟩
theorem am_tk3 {w : Cond} (h : w ∈ tables_1_3) (g : goodWord w = true) : w ∈ am_TW := List.mem_filter.mpr ⟨List.mem_append_right _ (show w ∈ tables_1 from List.mem_append_right _ (List.mem_append_right _ (List.mem_append_left _ h))), g⟩
theorem am_tk4 {w : Cond} (h : w ∈ tables_1_4) (g : goodWord w = true) : w ∈ am_TW := List.mem_filter.mpr ⟨List.mem_append_right _ (show w ∈ tables_1 from List.mem_append_right _ (List.mem_append_right _ (List.mem_append_right _ (List.mem_append_left _ h)))), g⟩
theorem am_tk5 {w : Cond} (h : w ∈ tables_1_5) (g : goodWord w = true) : w ∈ am_TW := List.mem_filter.mpr ⟨List.mem_append_right _ (show w ∈ tables_1 from List.mem_append_right _ (List.mem_append_right _ (List.mem_append_right _ (List.mem_append_right _ (List.mem_append_left _ h))))), g⟩
theorem am_tk6 {w : Cond} (h : w ∈ tables_1_6) (g : goodWord w = true) : w ∈ am_TW := List.mem_filter.mpr ⟨List.mem_append_right _ (show w ∈ tables_1 from List.mem_append_right _ (List.mem_append_right _ (List.mem_append_right _ (List.mem_append_right _ (List.mem_append_right _ (List.mem_append_left _ h)))))), g⟩
theorem am_tk7 {w : Cond} (h : w ∈ tables_1_7) (g : goodWord w = true) : w ∈ am_TW := List.mem_filter.mpr ⟨List.mem_append_right _ (show w ∈ tables_1 from List.mem_append_right _ (List.mem_append_right _ (List.mem_append_right _ (List.mem_append_right _ (List.mem_append_right _ (List.mem_append_right _ (List.mem_append_left _ h))))))), g⟩
theorem am_tk8 {w : Cond} (h : w ∈ tables_1_8) (g : goodWord w = true) : w ∈ am_TW := List.mem_filter.mpr ⟨List.mem_append_right _ (show w ∈ tables_1 from List.mem_append_right _ (List.mem_append_right _ (List.mem_append_right _ (List.mem_append_right _ (List.mem_append_right _ (List.mem_append_right _ (List.mem_append_right _ (List.mem_append_left _ h)))))))), g⟩
theorem am_tk9 {w : Cond} (h : w ∈ tables_1_9) (g : goodWord w = true) : w ∈ am_TW := List.mem_filter.mpr ⟨List.mem_append_right _ (show w ∈ tables_1 from List.mem_append_right _ (List.mem_append_right _ (List.mem_append_right _ (List.mem_append_right _ (List.mem_append_right _ (List.mem_append_right _ (List.mem_append_right _ (List.mem_append_right _ (List.mem_append_left _ h))))))))), g⟩
theorem am_tk10 {w : Cond} (h : w ∈ tables_1_10) (g : goodWord w = true) : w ∈ am_TW := List.mem_filter.mpr ⟨List.mem_append_right _ (show w ∈ tables_1 from List.mem_append_right _ (List.mem_append_right _ (List.mem_append_right _ (List.mem_append_right _ (List.mem_append_right _ (List.mem_append_right _ (List.mem_append_right _ (List.mem_append_right _ (List.mem_append_right _ (h)))))))))), g⟩
theorem wd_0 : Cond.selects "MourningHouse$Reader" ⟨"MourningHouse$Reader", "readLine", "(LMourningHouse$Law;II)Z"⟩ ⟨"MourningHouse$Reader", "readLine", "(LMourningHouse$Law;II)Z"⟩ ∈ am_TW := am_tw 0 (by decide +kernel) rfl
theorem wd_1 : Cond.selects "MourningHouse$Reader" ⟨"MourningHouse$Reader", "findTokens", "(II)Z"⟩ ⟨"MourningHouse$Reader", "findTokens", "(II)Z"⟩ ∈ am_TW := am_tw 1 (by decide +kernel) rfl
theorem wd_2 : Cond.selects "MourningHouse$Reader" ⟨"MourningHouse$Reader", "endOfToken", "(II)I"⟩ ⟨"MourningHouse$Reader", "endOfToken", "(II)I"⟩ ∈ am_TW := am_tw 2 (by decide +kernel) rfl
theorem wd_3 : Cond.selects "MourningHouse$Reader" ⟨"MourningHouse$Reader", "kindOf", "(II)I"⟩ ⟨"MourningHouse$Reader", "kindOf", "(II)I"⟩ ∈ am_TW := am_tw 3 (by decide +kernel) rfl
theorem wd_4 : Cond.selects "MourningHouse$Reader" ⟨"MourningHouse$Reader", "keepToken", "(III)V"⟩ ⟨"MourningHouse$Reader", "keepToken", "(III)V"⟩ ∈ am_TW := am_tw 4 (by decide +kernel) rfl
theorem wd_5 : Cond.selects "MourningHouse$Reader" ⟨"MourningHouse$Reader", "valueOf", "(II)I"⟩ ⟨"MourningHouse$Reader", "valueOf", "(II)I"⟩ ∈ am_TW := am_tw 5 (by decide +kernel) rfl
theorem wd_6 : Cond.selects "MourningHouse$Reader" ⟨"MourningHouse$Reader", "fail", "(I)Z"⟩ ⟨"MourningHouse$Reader", "fail", "(I)Z"⟩ ∈ am_TW := am_tw 6 (by decide +kernel) rfl
theorem wd_7 : Cond.selects "MourningHouse$Reader" ⟨"MourningHouse$Reader", "codeAt", "(I)I"⟩ ⟨"MourningHouse$Reader", "codeAt", "(I)I"⟩ ∈ am_TW := am_tw 7 (by decide +kernel) rfl
theorem wd_8 : Cond.selects "MourningHouse$Reader" ⟨"MourningHouse$Reader", "readRule", "(LMourningHouse$Law;)Z"⟩ ⟨"MourningHouse$Reader", "readRule", "(LMourningHouse$Law;)Z"⟩ ∈ am_TW := am_tw 8 (by decide +kernel) rfl
theorem wd_9 : Cond.selects "MourningHouse$Reader" ⟨"MourningHouse$Reader", "readKin", "(LMourningHouse$Law;)Z"⟩ ⟨"MourningHouse$Reader", "readKin", "(LMourningHouse$Law;)Z"⟩ ∈ am_TW := am_tw 9 (by decide +kernel) rfl
theorem wd_10 : Cond.selects "MourningHouse$Reader" ⟨"MourningHouse$Reader", "readParts", "(LMourningHouse$Law;)Z"⟩ ⟨"MourningHouse$Reader", "readParts", "(LMourningHouse$Law;)Z"⟩ ∈ am_TW := am_tw 10 (by decide +kernel) rfl
theorem wd_11 : Cond.selects "MourningHouse$Reader" ⟨"MourningHouse$Reader", "readPart", "(LMourningHouse$Law;)Z"⟩ ⟨"MourningHouse$Reader", "readPart", "(LMourningHouse$Law;)Z"⟩ ∈ am_TW := am_tw 11 (by decide +kernel) rfl
theorem wd_12 : Cond.selects "MourningHouse$Reader" ⟨"MourningHouse$Reader", "depthAt", "(I)I"⟩ ⟨"MourningHouse$Reader", "depthAt", "(I)I"⟩ ∈ am_TW := am_tw 12 (by decide +kernel) rfl
theorem wd_13 : Cond.selects "MourningHouse$Reader" ⟨"MourningHouse$Reader", "expectNumber", "(II)Z"⟩ ⟨"MourningHouse$Reader", "expectNumber", "(II)Z"⟩ ∈ am_TW := am_tw 13 (by decide +kernel) rfl
theorem wd_14 : Cond.selects "MourningHouse$Reader" ⟨"MourningHouse$Reader", "value", "()I"⟩ ⟨"MourningHouse$Reader", "value", "()I"⟩ ∈ am_TW := am_tw 14 (by decide +kernel) rfl
theorem wd_15 : Cond.selects "MourningHouse$Reader" ⟨"MourningHouse$Reader", "readOptions", "(LMourningHouse$Law;)Z"⟩ ⟨"MourningHouse$Reader", "readOptions", "(LMourningHouse$Law;)Z"⟩ ∈ am_TW := am_tw 15 (by decide +kernel) rfl
theorem wd_16 : Cond.selects "MourningHouse$Reader" ⟨"MourningHouse$Reader", "expect", "(I)Z"⟩ ⟨"MourningHouse$Reader", "expect", "(I)Z"⟩ ∈ am_TW := am_tw 16 (by decide +kernel) rfl
theorem wd_17 : Cond.selects "MourningHouse$Reader" ⟨"MourningHouse$Reader", "readMay", "(LMourningHouse$Law;)Z"⟩ ⟨"MourningHouse$Reader", "readMay", "(LMourningHouse$Law;)Z"⟩ ∈ am_TW := am_tw 17 (by decide +kernel) rfl
theorem wd_18 : Cond.selects "MourningHouse$Reader" ⟨"MourningHouse$Reader", "expectStuff", "()Z"⟩ ⟨"MourningHouse$Reader", "expectStuff", "()Z"⟩ ∈ am_TW := am_tw 18 (by decide +kernel) rfl
theorem wd_19 : Cond.selects "MourningHouse$Reader" ⟨"MourningHouse$Reader", "readFeast", "(LMourningHouse$Law;)Z"⟩ ⟨"MourningHouse$Reader", "readFeast", "(LMourningHouse$Law;)Z"⟩ ∈ am_TW := am_tw 19 (by decide +kernel) rfl
theorem wd_20 : Cond.selects "MourningHouse$Reader" ⟨"MourningHouse$Reader", "readHeir", "(LMourningHouse$Law;)Z"⟩ ⟨"MourningHouse$Reader", "readHeir", "(LMourningHouse$Law;)Z"⟩ ∈ am_TW := am_tw 20 (by decide +kernel) rfl
theorem wd_21 : Cond.selects "MourningHouse$Reader" ⟨"MourningHouse$Reader", "readUnder", "(LMourningHouse$Law;)Z"⟩ ⟨"MourningHouse$Reader", "readUnder", "(LMourningHouse$Law;)Z"⟩ ∈ am_TW := am_tw 21 (by decide +kernel) rfl
theorem wd_22 : Cond.selects "MourningHouse$Reader" ⟨"MourningHouse$Reader", "readWedding", "(LMourningHouse$Law;)Z"⟩ ⟨"MourningHouse$Reader", "readWedding", "(LMourningHouse$Law;)Z"⟩ ∈ am_TW := am_tw 22 (by decide +kernel) rfl
theorem wd_23 : Cond.selects "MourningHouse$Page" ⟨"MourningHouse$Page", "addByte", "(C)V"⟩ ⟨"MourningHouse$Page", "addByte", "(C)V"⟩ ∈ am_TW := am_tw 23 (by decide +kernel) rfl
theorem wd_24 : Cond.selects "MourningHouse$Law" ⟨"MourningHouse$Law", "isSameKin", "(II)Z"⟩ ⟨"MourningHouse$Law", "isSameKin", "(II)Z"⟩ ∈ am_TW := am_tw 24 (by decide +kernel) rfl
theorem wd_25 : Cond.selects "MourningHouse$Law" ⟨"MourningHouse$Law", "isSameOtherwise", "(II)Z"⟩ ⟨"MourningHouse$Law", "isSameOtherwise", "(II)Z"⟩ ∈ am_TW := am_tw 25 (by decide +kernel) rfl
theorem wd_26 : Cond.selects "MourningHouse$Wardrobe" ⟨"MourningHouse$Wardrobe", "clearDone", "()V"⟩ ⟨"MourningHouse$Wardrobe", "clearDone", "()V"⟩ ∈ am_TW := am_tw 26 (by decide +kernel) rfl
theorem wd_27 : Cond.selects "MourningHouse$Wardrobe" ⟨"MourningHouse$Wardrobe", "bring", "(I)V"⟩ ⟨"MourningHouse$Wardrobe", "bring", "(I)V"⟩ ∈ am_TW := am_tw 27 (by decide +kernel) rfl
theorem wd_28 : Cond.selects "MourningHouse" ⟨"MourningHouse", "isPast", "(I)Z"⟩ ⟨"MourningHouse", "isPast", "(I)Z"⟩ ∈ am_TW := am_tw 28 (by decide +kernel) rfl
theorem wd_29 : Cond.selects "MourningHouse$Family" ⟨"MourningHouse$Family", "canBeParent", "(III)Z"⟩ ⟨"MourningHouse$Family", "canBeParent", "(III)Z"⟩ ∈ am_TW := am_tw 29 (by decide +kernel) rfl
theorem wd_30 : Cond.selects "MourningHouse$Family" ⟨"MourningHouse$Family", "addChild", "(II)V"⟩ ⟨"MourningHouse$Family", "addChild", "(II)V"⟩ ∈ am_TW := am_tw 30 (by decide +kernel) rfl
theorem wd_31 : Cond.selects "MourningHouse$Family" ⟨"MourningHouse$Family", "kinOf", "(JI)J"⟩ ⟨"MourningHouse$Family", "kinOf", "(JI)J"⟩ ∈ am_TW := am_tw 31 (by decide +kernel) rfl
theorem wd_32 : Cond.selects "MourningHouse$Family" ⟨"MourningHouse$Family", "relativesOf", "(II)J"⟩ ⟨"MourningHouse$Family", "relativesOf", "(II)J"⟩ ∈ am_TW := am_tw 32 (by decide +kernel) rfl
theorem wd_33 : Cond.selects "MourningHouse$Mourner" ⟨"MourningHouse$Mourner", "startMourning", "(II)V"⟩ ⟨"MourningHouse$Mourner", "startMourning", "(II)V"⟩ ∈ am_TW := am_tw 33 (by decide +kernel) rfl
theorem wd_34 : Cond.selects "MourningHouse$Mourner" ⟨"MourningHouse$Mourner", "lookAhead", "()V"⟩ ⟨"MourningHouse$Mourner", "lookAhead", "()V"⟩ ∈ am_TW := am_tw 34 (by decide +kernel) rfl
theorem wd_35 : Cond.selects "MourningHouse$Mourner" ⟨"MourningHouse$Mourner", "moveTo", "(I)V"⟩ ⟨"MourningHouse$Mourner", "moveTo", "(I)V"⟩ ∈ am_TW := am_tw 35 (by decide +kernel) rfl
theorem wd_36 : Cond.selects "MourningHouse$Mourner" ⟨"MourningHouse$Mourner", "passDays", "(I)V"⟩ ⟨"MourningHouse$Mourner", "passDays", "(I)V"⟩ ∈ am_TW := am_tw 36 (by decide +kernel) rfl
theorem wd_37 : Cond.selects "MourningHouse$Mourner" ⟨"MourningHouse$Mourner", "endByWedding", "()V"⟩ ⟨"MourningHouse$Mourner", "endByWedding", "()V"⟩ ∈ am_TW := am_tw 37 (by decide +kernel) rfl
theorem wd_38 : Cond.selects "MourningHouse$Mourner" ⟨"MourningHouse$Mourner", "lightened", "(LMourningHouse$Law;I)I"⟩ ⟨"MourningHouse$Mourner", "lightened", "(LMourningHouse$Law;I)I"⟩ ∈ am_TW := am_tw 38 (by decide +kernel) rfl
theorem wd_39 : Cond.selects "MourningHouse$Mourner" ⟨"MourningHouse$Mourner", "isTooYoung", "(LMourningHouse$Law;I)Z"⟩ ⟨"MourningHouse$Mourner", "isTooYoung", "(LMourningHouse$Law;I)Z"⟩ ∈ am_TW := am_tw 39 (by decide +kernel) rfl
theorem wd_40 : Cond.selects "MourningHouse" ⟨"MourningHouse", "standing", "(I)I"⟩ ⟨"MourningHouse", "standing", "(I)I"⟩ ∈ am_TW := am_tw 40 (by decide +kernel) rfl
theorem wd_41 : Cond.selects "MourningHouse" ⟨"MourningHouse", "countAllowed", "(III)V"⟩ ⟨"MourningHouse", "countAllowed", "(III)V"⟩ ∈ am_TW := am_tw 41 (by decide +kernel) rfl
theorem wd_42 : Cond.selects "MourningHouse$Wardrobe" ⟨"MourningHouse$Wardrobe", "addTask", "(IIII)V"⟩ ⟨"MourningHouse$Wardrobe", "addTask", "(IIII)V"⟩ ∈ am_TW := am_tw 42 (by decide +kernel) rfl
theorem wd_43 : Cond.selects "MourningHouse" ⟨"MourningHouse", "isPlanned", "(III)Z"⟩ ⟨"MourningHouse", "isPlanned", "(III)Z"⟩ ∈ am_TW := am_tw 43 (by decide +kernel) rfl
theorem wd_44 : Cond.selects "MourningHouse$Planner" ⟨"MourningHouse$Planner", "takeHands", "()V"⟩ ⟨"MourningHouse$Planner", "takeHands", "()V"⟩ ∈ am_TW := am_tw 44 (by decide +kernel) rfl
theorem wd_45 : Cond.selects "MourningHouse$Planner" ⟨"MourningHouse$Planner", "freeHand", "(I)I"⟩ ⟨"MourningHouse$Planner", "freeHand", "(I)I"⟩ ∈ am_TW := am_tw 45 (by decide +kernel) rfl
theorem wd_46 : Cond.selects "MourningHouse$Planner" ⟨"MourningHouse$Planner", "choose", "(II)V"⟩ ⟨"MourningHouse$Planner", "choose", "(II)V"⟩ ∈ am_TW := am_tw 46 (by decide +kernel) rfl
theorem wd_47 : Cond.selects "MourningHouse$Planner" ⟨"MourningHouse$Planner", "keep", "(I)V"⟩ ⟨"MourningHouse$Planner", "keep", "(I)V"⟩ ∈ am_TW := am_tw 47 (by decide +kernel) rfl
theorem wd_48 : Cond.selects "MourningHouse$Planner" ⟨"MourningHouse$Planner", "pick", "(IIII)V"⟩ ⟨"MourningHouse$Planner", "pick", "(IIII)V"⟩ ∈ am_TW := am_tw 48 (by decide +kernel) rfl
theorem wd_49 : Cond.selects "MourningHouse$Planner" ⟨"MourningHouse$Planner", "isInTime", "(II)Z"⟩ ⟨"MourningHouse$Planner", "isInTime", "(II)Z"⟩ ∈ am_TW := am_tw 49 (by decide +kernel) rfl
theorem wd_50 : Cond.selects "MourningHouse$Planner" ⟨"MourningHouse$Planner", "wear", "(II)V"⟩ ⟨"MourningHouse$Planner", "wear", "(II)V"⟩ ∈ am_TW := am_tw 50 (by decide +kernel) rfl
theorem wd_51 : Cond.selects "MourningHouse$Planner" ⟨"MourningHouse$Planner", "dyeDarker", "(II)V"⟩ ⟨"MourningHouse$Planner", "dyeDarker", "(II)V"⟩ ∈ am_TW := am_tw 51 (by decide +kernel) rfl
theorem wd_52 : Cond.selects "MourningHouse$Planner" ⟨"MourningHouse$Planner", "sew", "(II)V"⟩ ⟨"MourningHouse$Planner", "sew", "(II)V"⟩ ∈ am_TW := am_tw 52 (by decide +kernel) rfl
theorem wd_53 : Cond.selects "MourningHouseModel" ⟨"MourningHouseModel", "feeds", "(I)V"⟩ ⟨"MourningHouseModel", "feeds", "(I)V"⟩ ∈ am_TW := am_tw 53 (by decide +kernel) rfl
theorem wd_54 : Cond.selects "MourningHouseModel" ⟨"MourningHouseModel", "reads", "(II)V"⟩ ⟨"MourningHouseModel", "reads", "(II)V"⟩ ∈ am_TW := am_tw 54 (by decide +kernel) rfl
theorem wd_55 : Cond.selects "MourningHouseModel" ⟨"MourningHouseModel", "splits", "(II)V"⟩ ⟨"MourningHouseModel", "splits", "(II)V"⟩ ∈ am_TW := am_tw 55 (by decide +kernel) rfl
theorem wd_56 : Cond.selects "MourningHouseModel" ⟨"MourningHouseModel", "faults", "(II)V"⟩ ⟨"MourningHouseModel", "faults", "(II)V"⟩ ∈ am_TW := am_tw 56 (by decide +kernel) rfl
theorem wd_57 : Cond.selects "MourningHouseModel" ⟨"MourningHouseModel", "isWord", "(Ljava/lang/String;)Z"⟩ ⟨"MourningHouseModel", "isWord", "(Ljava/lang/String;)Z"⟩ ∈ am_TW := am_tw 57 (by decide +kernel) rfl
theorem wd_58 : Cond.selects "MourningHouseModel" ⟨"MourningHouseModel", "rule", "()V"⟩ ⟨"MourningHouseModel", "rule", "()V"⟩ ∈ am_TW := am_tw 58 (by decide +kernel) rfl
theorem wd_59 : Cond.selects "MourningHouseModel" ⟨"MourningHouseModel", "word", "(I)V"⟩ ⟨"MourningHouseModel", "word", "(I)V"⟩ ∈ am_TW := am_tw 59 (by decide +kernel) rfl
theorem wd_60 : Cond.selects "MourningHouseModel" ⟨"MourningHouseModel", "wordOf", "([Ljava/lang/String;)I"⟩ ⟨"MourningHouseModel", "wordOf", "([Ljava/lang/String;)I"⟩ ∈ am_TW := am_tw 60 (by decide +kernel) rfl
theorem wd_61 : Cond.selects "MourningHouseModel" ⟨"MourningHouseModel", "needs", "(I)V"⟩ ⟨"MourningHouseModel", "needs", "(I)V"⟩ ∈ am_TW := am_tw 61 (by decide +kernel) rfl
theorem wd_62 : Cond.selects "MourningHouseModel" ⟨"MourningHouseModel", "isSign", "(I)Z"⟩ ⟨"MourningHouseModel", "isSign", "(I)Z"⟩ ∈ am_TW := am_tw 62 (by decide +kernel) rfl
theorem wd_63 : Cond.selects "MourningHouseModel" ⟨"MourningHouseModel", "stage", "(I)V"⟩ ⟨"MourningHouseModel", "stage", "(I)V"⟩ ∈ am_TW := am_tw 63 (by decide +kernel) rfl
theorem wd_64 : Cond.selects "MourningHouseModel" ⟨"MourningHouseModel", "number", "(II)I"⟩ ⟨"MourningHouseModel", "number", "(II)I"⟩ ∈ am_TW := am_tw 64 (by decide +kernel) rfl
theorem wd_65 : Cond.selects "MourningHouseModel" ⟨"MourningHouseModel", "needs", "([Ljava/lang/String;)I"⟩ ⟨"MourningHouseModel", "needs", "([Ljava/lang/String;)I"⟩ ∈ am_TW := am_tw 65 (by decide +kernel) rfl
theorem wd_66 : Cond.selects "MourningHouseModel" ⟨"MourningHouseModel", "option", "(I)V"⟩ ⟨"MourningHouseModel", "option", "(I)V"⟩ ∈ am_TW := am_tw 66 (by decide +kernel) rfl
theorem wd_67 : Cond.selects "MourningHouseModel" ⟨"MourningHouseModel", "needs", "(Ljava/lang/String;)V"⟩ ⟨"MourningHouseModel", "needs", "(Ljava/lang/String;)V"⟩ ∈ am_TW := am_tw 67 (by decide +kernel) rfl
theorem wd_68 : Cond.selects "MourningHouseModel" ⟨"MourningHouseModel", "feast", "()V"⟩ ⟨"MourningHouseModel", "feast", "()V"⟩ ∈ am_TW := am_tw 68 (by decide +kernel) rfl
theorem wd_69 : Cond.selects "MourningHouseModel" ⟨"MourningHouseModel", "others", "()V"⟩ ⟨"MourningHouseModel", "others", "()V"⟩ ∈ am_TW := am_tw 69 (by decide +kernel) rfl
theorem wd_70 : Cond.selects "MourningHouseModel" ⟨"MourningHouseModel", "copies", "(I)V"⟩ ⟨"MourningHouseModel", "copies", "(I)V"⟩ ∈ am_TW := am_tw 70 (by decide +kernel) rfl
theorem wd_71 : Cond.selects "MourningHouseModel" ⟨"MourningHouseModel", "works", "()V"⟩ ⟨"MourningHouseModel", "works", "()V"⟩ ∈ am_TW := am_tw 71 (by decide +kernel) rfl
theorem wd_72 : Cond.selects "MourningHouseModel" ⟨"MourningHouseModel", "done", "(I)V"⟩ ⟨"MourningHouseModel", "done", "(I)V"⟩ ∈ am_TW := am_tw 72 (by decide +kernel) rfl
theorem wd_73 : Cond.selects "MourningHouseModel" ⟨"MourningHouseModel", "isPerson", "(I)Z"⟩ ⟨"MourningHouseModel", "isPerson", "(I)Z"⟩ ∈ am_TW := am_tw 73 (by decide +kernel) rfl
theorem wd_74 : Cond.selects "MourningHouseModel" ⟨"MourningHouseModel", "isKinBy", "(IIIIII)Z"⟩ ⟨"MourningHouseModel", "isKinBy", "(IIIIII)Z"⟩ ∈ am_TW := am_tw 74 (by decide +kernel) rfl
theorem wd_75 : Cond.selects "MourningHouseModel" ⟨"MourningHouseModel", "isThere", "(II)Z"⟩ ⟨"MourningHouseModel", "isThere", "(II)Z"⟩ ∈ am_TW := am_tw 75 (by decide +kernel) rfl
theorem wd_76 : Cond.selects "MourningHouseModel" ⟨"MourningHouseModel", "isKin", "(IIIII)Z"⟩ ⟨"MourningHouseModel", "isKin", "(IIIII)Z"⟩ ∈ am_TW := am_tw 76 (by decide +kernel) rfl
theorem wd_77 : Cond.selects "MourningHouseModel" ⟨"MourningHouseModel", "isSpouse", "(IIII)Z"⟩ ⟨"MourningHouseModel", "isSpouse", "(IIII)Z"⟩ ∈ am_TW := am_tw 77 (by decide +kernel) rfl
theorem wd_78 : Cond.selects "MourningHouseModel" ⟨"MourningHouseModel", "isParent", "(II)Z"⟩ ⟨"MourningHouseModel", "isParent", "(II)Z"⟩ ∈ am_TW := am_tw 78 (by decide +kernel) rfl
theorem wd_79 : Cond.selects "MourningHouseModel" ⟨"MourningHouseModel", "isSibling", "(II)Z"⟩ ⟨"MourningHouseModel", "isSibling", "(II)Z"⟩ ∈ am_TW := am_tw 79 (by decide +kernel) rfl
theorem wd_80 : Cond.selects "MourningHouseModel" ⟨"MourningHouseModel", "isKnownDay", "(I)Z"⟩ ⟨"MourningHouseModel", "isKnownDay", "(I)Z"⟩ ∈ am_TW := am_tw 80 (by decide +kernel) rfl
theorem wd_81 : Cond.selects "MourningHouseModel" ⟨"MourningHouseModel", "ruleFor", "(III)I"⟩ ⟨"MourningHouseModel", "ruleFor", "(III)I"⟩ ∈ am_TW := am_tw 81 (by decide +kernel) rfl
theorem wd_82 : Cond.selects "MourningHouseModel" ⟨"MourningHouseModel", "lawOf", "(II)I"⟩ ⟨"MourningHouseModel", "lawOf", "(II)I"⟩ ∈ am_TW := am_tw 82 (by decide +kernel) rfl
theorem wd_83 : Cond.selects "MourningHouseModel" ⟨"MourningHouseModel", "depthAt", "(III)I"⟩ ⟨"MourningHouseModel", "depthAt", "(III)I"⟩ ∈ am_TW := am_tw 83 (by decide +kernel) rfl
theorem wd_84 : Cond.selects "MourningHouseModel" ⟨"MourningHouseModel", "isAlive", "(III)Z"⟩ ⟨"MourningHouseModel", "isAlive", "(III)Z"⟩ ∈ am_TW := am_tw 84 (by decide +kernel) rfl
theorem wd_85 : Cond.selects "MourningHouseModel" ⟨"MourningHouseModel", "prepares", "(II)V"⟩ ⟨"MourningHouseModel", "prepares", "(II)V"⟩ ∈ am_TW := am_tw 85 (by decide +kernel) rfl
theorem wd_86 : Cond.selects "MourningHouseModel" ⟨"MourningHouseModel", "enters", "(IIII)V"⟩ ⟨"MourningHouseModel", "enters", "(IIII)V"⟩ ∈ am_TW := am_tw 86 (by decide +kernel) rfl
theorem wd_87 : Cond.selects "MourningHouseModel" ⟨"MourningHouseModel", "goesTo", "(I)V"⟩ ⟨"MourningHouseModel", "goesTo", "(I)V"⟩ ∈ am_TW := am_tw 87 (by decide +kernel) rfl
theorem wd_88 : Cond.selects "MourningHouseModel" ⟨"MourningHouseModel", "firstBegin", "()I"⟩ ⟨"MourningHouseModel", "firstBegin", "()I"⟩ ∈ am_TW := am_tw 88 (by decide +kernel) rfl
theorem wd_89 : Cond.selects "MourningHouseModel" ⟨"MourningHouseModel", "weds", "(I)V"⟩ ⟨"MourningHouseModel", "weds", "(I)V"⟩ ∈ am_TW := am_tw 89 (by decide +kernel) rfl
theorem wd_90 : Cond.selects "MourningHouseModel" ⟨"MourningHouseModel", "depthOf", "(II)I"⟩ ⟨"MourningHouseModel", "depthOf", "(II)I"⟩ ∈ am_TW := am_tw 90 (by decide +kernel) rfl
theorem wd_91 : Cond.selects "MourningHouseModel" ⟨"MourningHouseModel", "advances", "(I)V"⟩ ⟨"MourningHouseModel", "advances", "(I)V"⟩ ∈ am_TW := am_tw 91 (by decide +kernel) rfl
theorem wd_92 : Cond.selects "MourningHouseModel" ⟨"MourningHouseModel", "depthNow", "(I)I"⟩ ⟨"MourningHouseModel", "depthNow", "(I)I"⟩ ∈ am_TW := am_tw 92 (by decide +kernel) rfl
theorem wd_93 : Cond.selects "MourningHouseModel" ⟨"MourningHouseModel", "feastCap", "(II)I"⟩ ⟨"MourningHouseModel", "feastCap", "(II)I"⟩ ∈ am_TW := am_tw 93 (by decide +kernel) rfl
theorem wd_94 : Cond.selects "MourningHouseModel" ⟨"MourningHouseModel", "heirCap", "(III)I"⟩ ⟨"MourningHouseModel", "heirCap", "(III)I"⟩ ∈ am_TW := am_tw 94 (by decide +kernel) rfl
theorem wd_95 : Cond.selects "MourningHouseModel" ⟨"MourningHouseModel", "mayAt", "(IIII)Z"⟩ ⟨"MourningHouseModel", "mayAt", "(IIII)Z"⟩ ∈ am_TW := am_tw 95 (by decide +kernel) rfl
theorem wd_96 : Cond.selects "MourningHouseModel" ⟨"MourningHouseModel", "mayBe", "(II)Z"⟩ ⟨"MourningHouseModel", "mayBe", "(II)Z"⟩ ∈ am_TW := am_tw 96 (by decide +kernel) rfl
theorem wd_97 : Cond.selects "MourningHouseModel" ⟨"MourningHouseModel", "making", "()I"⟩ ⟨"MourningHouseModel", "making", "()I"⟩ ∈ am_TW := am_tw 97 (by decide +kernel) rfl
theorem wd_98 : Cond.selects "MourningHouseModel" ⟨"MourningHouseModel", "hasTask", "(I)Z"⟩ ⟨"MourningHouseModel", "hasTask", "(I)Z"⟩ ∈ am_TW := am_tw 98 (by decide +kernel) rfl
theorem wd_99 : Cond.selects "MourningHouseModel" ⟨"MourningHouseModel", "asks", "(IIII)V"⟩ ⟨"MourningHouseModel", "asks", "(IIII)V"⟩ ∈ am_TW := am_tw 99 (by decide +kernel) rfl
theorem wd_100 : Cond.selects "MourningHouseModel" ⟨"MourningHouseModel", "plans", "(II)Z"⟩ ⟨"MourningHouseModel", "plans", "(II)Z"⟩ ∈ am_TW := am_tw 100 (by decide +kernel) rfl
theorem wd_101 : Cond.selects "MourningHouseModel" ⟨"MourningHouseModel", "tries", "(I)V"⟩ ⟨"MourningHouseModel", "tries", "(I)V"⟩ ∈ am_TW := am_tw 101 (by decide +kernel) rfl
theorem wd_102 : Cond.selects "MourningHouseModel" ⟨"MourningHouseModel", "looks", "()V"⟩ ⟨"MourningHouseModel", "looks", "()V"⟩ ∈ am_TW := am_tw 102 (by decide +kernel) rfl
theorem wd_103 : Cond.selects "MourningHouseModel" ⟨"MourningHouseModel", "isInTime", "()Z"⟩ ⟨"MourningHouseModel", "isInTime", "()Z"⟩ ∈ am_TW := am_tw 103 (by decide +kernel) rfl
theorem wd_104 : Cond.selects "MourningHouseModel" ⟨"MourningHouseModel", "takes", "(III)V"⟩ ⟨"MourningHouseModel", "takes", "(III)V"⟩ ∈ am_TW := am_tw 104 (by decide +kernel) rfl
theorem wd_105 : Cond.selects "MourningHouseModel" ⟨"MourningHouseModel", "least", "(II)I"⟩ ⟨"MourningHouseModel", "least", "(II)I"⟩ ∈ am_TW := am_tw 105 (by decide +kernel) rfl
theorem wd_106 : Cond.selects "MourningHouseModel" ⟨"MourningHouseModel", "isRule", "(II)Z"⟩ ⟨"MourningHouseModel", "isRule", "(II)Z"⟩ ∈ am_TW := am_tw 106 (by decide +kernel) rfl
theorem wd_107 : Cond.selects "MourningHouseModel" ⟨"MourningHouseModel", "writesRule", "(II)V"⟩ ⟨"MourningHouseModel", "writesRule", "(II)V"⟩ ∈ am_TW := am_tw 107 (by decide +kernel) rfl
theorem wd_109 : Cond.selects "MourningHouseModel" ⟨"MourningHouseModel", "areOne", "(III)Z"⟩ ⟨"MourningHouseModel", "areOne", "(III)Z"⟩ ∈ am_TW := am_tw 109 (by decide +kernel) rfl
theorem wd_110 : Cond.selects "MourningHouseModel" ⟨"MourningHouseModel", "areAlike", "(III)Z"⟩ ⟨"MourningHouseModel", "areAlike", "(III)Z"⟩ ∈ am_TW := am_tw 110 (by decide +kernel) rfl
theorem wd_112 : Cond.initialized "MourningHouse" ∈ am_TW := am_tk1 (List.mem_of_getElem? (i := 1) (by decide +kernel)) rfl
theorem wd_113 : Cond.initialized "MourningHouse$Reader" ∈ am_TW := am_tk1 (List.mem_of_getElem? (i := 2) (by decide +kernel)) rfl
theorem wd_114 : Cond.initialized "MourningHouse$Page" ∈ am_TW := am_tk1 (List.mem_of_getElem? (i := 3) (by decide +kernel)) rfl
theorem wd_115 : Cond.initialized "MourningHouse$Decrees" ∈ am_TW := am_tk1 (List.mem_of_getElem? (i := 4) (by decide +kernel)) rfl
theorem wd_116 : Cond.initialized "MourningHouse$Law" ∈ am_TW := am_tk1 (List.mem_of_getElem? (i := 5) (by decide +kernel)) rfl
theorem wd_117 : Cond.initialized "MourningHouse$Family" ∈ am_TW := am_tk1 (List.mem_of_getElem? (i := 6) (by decide +kernel)) rfl
theorem wd_118 : Cond.initialized "MourningHouse$Mourner" ∈ am_TW := am_tk1 (List.mem_of_getElem? (i := 7) (by decide +kernel)) rfl
theorem wd_119 : Cond.initialized "MourningHouse$Mourning" ∈ am_TW := am_tk1 (List.mem_of_getElem? (i := 8) (by decide +kernel)) rfl
theorem wd_120 : Cond.initialized "MourningHouse$Wardrobe" ∈ am_TW := am_tk1 (List.mem_of_getElem? (i := 9) (by decide +kernel)) rfl
theorem wd_121 : Cond.initialized "MourningHouse$Planner" ∈ am_TW := am_tk1 (List.mem_of_getElem? (i := 10) (by decide +kernel)) rfl
theorem wd_122 : Cond.initialized "MourningHouseModel" ∈ am_TW := am_tk1 (List.mem_of_getElem? (i := 11) (by decide +kernel)) rfl
theorem wd_123 : Cond.initialized "MourningHouse$Words" ∈ am_TW := am_tk1 (List.mem_of_getElem? (i := 12) (by decide +kernel)) rfl
theorem wd_124 : Cond.initialized "java/lang/String" ∈ am_TW := am_tk1 (List.mem_of_getElem? (i := 13) (by decide +kernel)) rfl
theorem wd_128 : Cond.initialized "java/lang/Math" ∈ am_TW := am_tk1 (List.mem_of_getElem? (i := 17) (by decide +kernel)) rfl
theorem wd_129 : Cond.initialized "MourningHouse$Calendar" ∈ am_TW := am_tk1 (List.mem_of_getElem? (i := 18) (by decide +kernel)) rfl
theorem wd_130 : Cond.initialized "java/lang/Integer" ∈ am_TW := am_tk1 (List.mem_of_getElem? (i := 19) (by decide +kernel)) rfl
theorem wd_150 : Cond.fieldLink "MourningHouse$Reader" 9 "MourningHouse$Reader" "bytes" "[C" ∈ am_TW := am_tk1 (List.mem_of_getElem? (i := 39) (by decide +kernel)) rfl
theorem wd_151 : Cond.fieldLink "MourningHouse$Reader" 13 "MourningHouse$Reader" "codes" "[I" ∈ am_TW := am_tk1 (List.mem_of_getElem? (i := 40) (by decide +kernel)) rfl
theorem wd_152 : Cond.fieldLink "MourningHouse$Reader" 17 "MourningHouse$Reader" "values" "[I" ∈ am_TW := am_tk1 (List.mem_of_getElem? (i := 41) (by decide +kernel)) rfl
theorem wd_153 : Cond.fieldLink "MourningHouse$Reader" 20 "MourningHouse$Reader" "size" "I" ∈ am_TW := am_tk1 (List.mem_of_getElem? (i := 42) (by decide +kernel)) rfl
theorem wd_154 : Cond.fieldLink "MourningHouse" 90 "MourningHouse$Reader" "size" "I" ∈ am_TW := am_tk1 (List.mem_of_getElem? (i := 43) (by decide +kernel)) rfl
theorem wd_155 : Cond.fieldLink "MourningHouse$Reader" 24 "MourningHouse$Reader" "faultLine" "I" ∈ am_TW := am_tk1 (List.mem_of_getElem? (i := 44) (by decide +kernel)) rfl
theorem wd_156 : Cond.fieldLink "MourningHouse" 110 "MourningHouse$Reader" "faultLine" "I" ∈ am_TW := am_tk1 (List.mem_of_getElem? (i := 45) (by decide +kernel)) rfl
theorem wd_157 : Cond.fieldLink "MourningHouse$Reader" 27 "MourningHouse$Reader" "faultToken" "I" ∈ am_TW := am_tk1 (List.mem_of_getElem? (i := 46) (by decide +kernel)) rfl
theorem wd_158 : Cond.fieldLink "MourningHouse" 113 "MourningHouse$Reader" "faultToken" "I" ∈ am_TW := am_tk1 (List.mem_of_getElem? (i := 47) (by decide +kernel)) rfl
theorem wd_159 : Cond.fieldLink "MourningHouse$Reader" 30 "MourningHouse$Reader" "faultKind" "I" ∈ am_TW := am_tk1 (List.mem_of_getElem? (i := 48) (by decide +kernel)) rfl
theorem wd_160 : Cond.fieldLink "MourningHouse" 116 "MourningHouse$Reader" "faultKind" "I" ∈ am_TW := am_tk1 (List.mem_of_getElem? (i := 49) (by decide +kernel)) rfl
theorem wd_161 : Cond.fieldLink "MourningHouse$Reader" 33 "MourningHouse$Reader" "line" "I" ∈ am_TW := am_tk1 (List.mem_of_getElem? (i := 50) (by decide +kernel)) rfl
theorem wd_162 : Cond.fieldLink "MourningHouse$Reader" 36 "MourningHouse$Reader" "tokens" "I" ∈ am_TW := am_tk1 (List.mem_of_getElem? (i := 51) (by decide +kernel)) rfl
theorem wd_163 : Cond.fieldLink "MourningHouse$Reader" 39 "MourningHouse$Reader" "at" "I" ∈ am_TW := am_tk1 (List.mem_of_getElem? (i := 52) (by decide +kernel)) rfl
theorem wd_193 : Cond.fieldLink "MourningHouse$Page" 9 "MourningHouse$Page" "bytes" "[C" ∈ am_TW := am_tk1 (List.mem_of_getElem? (i := 82) (by decide +kernel)) rfl
theorem wd_194 : Cond.fieldLink "MourningHouse" 135 "MourningHouse$Page" "bytes" "[C" ∈ am_TW := am_tk1 (List.mem_of_getElem? (i := 83) (by decide +kernel)) rfl
theorem wd_195 : Cond.fieldLink "MourningHouse$Page" 13 "MourningHouse$Page" "size" "I" ∈ am_TW := am_tk1 (List.mem_of_getElem? (i := 84) (by decide +kernel)) rfl
theorem wd_196 : Cond.fieldLink "MourningHouse" 131 "MourningHouse$Page" "size" "I" ∈ am_TW := am_tk1 (List.mem_of_getElem? (i := 85) (by decide +kernel)) rfl
theorem wd_215 : Cond.fieldLink "MourningHouse$Law" 11 "MourningHouse$Law" "kinCounts" "[I" ∈ am_TW := am_tk1 (List.mem_of_getElem? (i := 104) (by decide +kernel)) rfl
theorem wd_216 : Cond.fieldLink "MourningHouse$Law" 15 "MourningHouse$Law" "kinWords" "[I" ∈ am_TW := am_tk1 (List.mem_of_getElem? (i := 105) (by decide +kernel)) rfl
theorem wd_217 : Cond.fieldLink "MourningHouse$Law" 18 "MourningHouse$Law" "partCounts" "[I" ∈ am_TW := am_tk1 (List.mem_of_getElem? (i := 106) (by decide +kernel)) rfl
theorem wd_218 : Cond.fieldLink "MourningHouse$Law" 21 "MourningHouse$Law" "partDepths" "[I" ∈ am_TW := am_tk1 (List.mem_of_getElem? (i := 107) (by decide +kernel)) rfl
theorem wd_219 : Cond.fieldLink "MourningHouse$Law" 24 "MourningHouse$Law" "partNumbers" "[I" ∈ am_TW := am_tk1 (List.mem_of_getElem? (i := 108) (by decide +kernel)) rfl
theorem wd_220 : Cond.fieldLink "MourningHouse$Law" 27 "MourningHouse$Law" "partUnits" "[I" ∈ am_TW := am_tk1 (List.mem_of_getElem? (i := 109) (by decide +kernel)) rfl
theorem wd_221 : Cond.fieldLink "MourningHouse$Law" 30 "MourningHouse$Law" "options" "[I" ∈ am_TW := am_tk1 (List.mem_of_getElem? (i := 110) (by decide +kernel)) rfl
theorem wd_222 : Cond.fieldLink "MourningHouse$Law" 33 "MourningHouse$Law" "feastDates" "[I" ∈ am_TW := am_tk1 (List.mem_of_getElem? (i := 111) (by decide +kernel)) rfl
theorem wd_223 : Cond.fieldLink "MourningHouse$Law" 36 "MourningHouse$Law" "feastDepths" "[I" ∈ am_TW := am_tk1 (List.mem_of_getElem? (i := 112) (by decide +kernel)) rfl
theorem wd_224 : Cond.fieldLink "MourningHouse$Law" 39 "MourningHouse$Law" "mayDepths" "[I" ∈ am_TW := am_tk1 (List.mem_of_getElem? (i := 113) (by decide +kernel)) rfl
theorem wd_225 : Cond.fieldLink "MourningHouse$Mourner" 209 "MourningHouse$Law" "mayDepths" "[I" ∈ am_TW := am_tk1 (List.mem_of_getElem? (i := 114) (by decide +kernel)) rfl
theorem wd_226 : Cond.fieldLink "MourningHouse$Reader" 190 "MourningHouse$Law" "mayDepths" "[I" ∈ am_TW := am_tk1 (List.mem_of_getElem? (i := 115) (by decide +kernel)) rfl
theorem wd_227 : Cond.fieldLink "MourningHouse$Law" 42 "MourningHouse$Law" "rules" "I" ∈ am_TW := am_tk1 (List.mem_of_getElem? (i := 116) (by decide +kernel)) rfl
theorem wd_228 : Cond.fieldLink "MourningHouse$Mourner" 72 "MourningHouse$Law" "rules" "I" ∈ am_TW := am_tk1 (List.mem_of_getElem? (i := 117) (by decide +kernel)) rfl
theorem wd_229 : Cond.fieldLink "MourningHouse" 105 "MourningHouse$Law" "rules" "I" ∈ am_TW := am_tk1 (List.mem_of_getElem? (i := 118) (by decide +kernel)) rfl
theorem wd_230 : Cond.fieldLink "MourningHouse$Law" 46 "MourningHouse$Law" "feasts" "I" ∈ am_TW := am_tk1 (List.mem_of_getElem? (i := 119) (by decide +kernel)) rfl
theorem wd_231 : Cond.fieldLink "MourningHouse$Law" 49 "MourningHouse$Law" "heirDays" "I" ∈ am_TW := am_tk1 (List.mem_of_getElem? (i := 120) (by decide +kernel)) rfl
theorem wd_232 : Cond.fieldLink "MourningHouse$Mourner" 193 "MourningHouse$Law" "heirDays" "I" ∈ am_TW := am_tk1 (List.mem_of_getElem? (i := 121) (by decide +kernel)) rfl
theorem wd_233 : Cond.fieldLink "MourningHouse$Reader" 205 "MourningHouse$Law" "heirDays" "I" ∈ am_TW := am_tk1 (List.mem_of_getElem? (i := 122) (by decide +kernel)) rfl
theorem wd_234 : Cond.fieldLink "MourningHouse$Law" 52 "MourningHouse$Law" "heirDepth" "I" ∈ am_TW := am_tk1 (List.mem_of_getElem? (i := 123) (by decide +kernel)) rfl
theorem wd_235 : Cond.fieldLink "MourningHouse$Mourner" 190 "MourningHouse$Law" "heirDepth" "I" ∈ am_TW := am_tk1 (List.mem_of_getElem? (i := 124) (by decide +kernel)) rfl
theorem wd_236 : Cond.fieldLink "MourningHouse$Reader" 208 "MourningHouse$Law" "heirDepth" "I" ∈ am_TW := am_tk1 (List.mem_of_getElem? (i := 125) (by decide +kernel)) rfl
theorem wd_237 : Cond.fieldLink "MourningHouse$Law" 55 "MourningHouse$Law" "underYears" "I" ∈ am_TW := am_tk1 (List.mem_of_getElem? (i := 126) (by decide +kernel)) rfl
theorem wd_238 : Cond.fieldLink "MourningHouse$Mourner" 200 "MourningHouse$Law" "underYears" "I" ∈ am_TW := am_tk1 (List.mem_of_getElem? (i := 127) (by decide +kernel)) rfl
theorem wd_239 : Cond.fieldLink "MourningHouse$Reader" 211 "MourningHouse$Law" "underYears" "I" ∈ am_TW := am_tk1 (List.mem_of_getElem? (i := 128) (by decide +kernel)) rfl
theorem wd_240 : Cond.fieldLink "MourningHouse$Law" 58 "MourningHouse$Law" "underDepth" "I" ∈ am_TW := am_tk1 (List.mem_of_getElem? (i := 129) (by decide +kernel)) rfl
theorem wd_241 : Cond.fieldLink "MourningHouse$Mourner" 181 "MourningHouse$Law" "underDepth" "I" ∈ am_TW := am_tk1 (List.mem_of_getElem? (i := 130) (by decide +kernel)) rfl
theorem wd_242 : Cond.fieldLink "MourningHouse$Reader" 214 "MourningHouse$Law" "underDepth" "I" ∈ am_TW := am_tk1 (List.mem_of_getElem? (i := 131) (by decide +kernel)) rfl
theorem wd_243 : Cond.fieldLink "MourningHouse$Law" 61 "MourningHouse$Law" "weddingDepth" "I" ∈ am_TW := am_tk1 (List.mem_of_getElem? (i := 132) (by decide +kernel)) rfl
theorem wd_244 : Cond.fieldLink "MourningHouse$Mourner" 137 "MourningHouse$Law" "weddingDepth" "I" ∈ am_TW := am_tk1 (List.mem_of_getElem? (i := 133) (by decide +kernel)) rfl
theorem wd_245 : Cond.fieldLink "MourningHouse$Reader" 217 "MourningHouse$Law" "weddingDepth" "I" ∈ am_TW := am_tk1 (List.mem_of_getElem? (i := 134) (by decide +kernel)) rfl
theorem wd_247 : Cond.fieldLink "MourningHouse$Decrees" 36 "MourningHouse$Law" "takenOn" "I" ∈ am_TW := am_tk1 (List.mem_of_getElem? (i := 136) (by decide +kernel)) rfl
theorem wd_285 : Cond.fieldLink "MourningHouse$Decrees" 11 "MourningHouse$Decrees" "taken" "[LMourningHouse$Law;" ∈ am_TW := am_tk1 (List.mem_of_getElem? (i := 174) (by decide +kernel)) rfl
theorem wd_286 : Cond.fieldLink "MourningHouse$Decrees" 15 "MourningHouse$Decrees" "orderDays" "[I" ∈ am_TW := am_tk1 (List.mem_of_getElem? (i := 175) (by decide +kernel)) rfl
theorem wd_287 : Cond.fieldLink "MourningHouse$Decrees" 19 "MourningHouse$Decrees" "orderLengths" "[I" ∈ am_TW := am_tk1 (List.mem_of_getElem? (i := 176) (by decide +kernel)) rfl
theorem wd_288 : Cond.fieldLink "MourningHouse$Decrees" 22 "MourningHouse$Decrees" "orderDepths" "[I" ∈ am_TW := am_tk1 (List.mem_of_getElem? (i := 177) (by decide +kernel)) rfl
theorem wd_289 : Cond.fieldLink "MourningHouse$Decrees" 25 "MourningHouse$Decrees" "orderTold" "[I" ∈ am_TW := am_tk1 (List.mem_of_getElem? (i := 178) (by decide +kernel)) rfl
theorem wd_290 : Cond.fieldLink "MourningHouse$Decrees" 28 "MourningHouse$Decrees" "laws" "I" ∈ am_TW := am_tk1 (List.mem_of_getElem? (i := 179) (by decide +kernel)) rfl
theorem wd_291 : Cond.fieldLink "MourningHouse" 207 "MourningHouse$Decrees" "laws" "I" ∈ am_TW := am_tk1 (List.mem_of_getElem? (i := 180) (by decide +kernel)) rfl
theorem wd_292 : Cond.fieldLink "MourningHouse$Decrees" 32 "MourningHouse$Decrees" "orders" "I" ∈ am_TW := am_tk1 (List.mem_of_getElem? (i := 181) (by decide +kernel)) rfl
theorem wd_293 : Cond.fieldLink "MourningHouse" 304 "MourningHouse$Decrees" "orders" "I" ∈ am_TW := am_tk1 (List.mem_of_getElem? (i := 182) (by decide +kernel)) rfl
theorem wd_315 : Cond.fieldLink "MourningHouse$Family" 11 "MourningHouse$Family" "sexes" "[I" ∈ am_TW := am_tk1 (List.mem_of_getElem? (i := 204) (by decide +kernel)) rfl
theorem wd_316 : Cond.fieldLink "MourningHouse$Family" 15 "MourningHouse$Family" "sizes" "[I" ∈ am_TW := am_tk1 (List.mem_of_getElem? (i := 205) (by decide +kernel)) rfl
theorem wd_317 : Cond.fieldLink "MourningHouse" 327 "MourningHouse$Family" "sizes" "[I" ∈ am_TW := am_tk1 (List.mem_of_getElem? (i := 206) (by decide +kernel)) rfl
theorem wd_318 : Cond.fieldLink "MourningHouse$Family" 18 "MourningHouse$Family" "fathers" "[I" ∈ am_TW := am_tk1 (List.mem_of_getElem? (i := 207) (by decide +kernel)) rfl
theorem wd_319 : Cond.fieldLink "MourningHouse$Family" 21 "MourningHouse$Family" "mothers" "[I" ∈ am_TW := am_tk1 (List.mem_of_getElem? (i := 208) (by decide +kernel)) rfl
theorem wd_320 : Cond.fieldLink "MourningHouse$Family" 24 "MourningHouse$Family" "born" "[I" ∈ am_TW := am_tk1 (List.mem_of_getElem? (i := 209) (by decide +kernel)) rfl
theorem wd_321 : Cond.fieldLink "MourningHouse$Mourner" 107 "MourningHouse$Family" "born" "[I" ∈ am_TW := am_tk1 (List.mem_of_getElem? (i := 210) (by decide +kernel)) rfl
theorem wd_322 : Cond.fieldLink "MourningHouse" 185 "MourningHouse$Family" "born" "[I" ∈ am_TW := am_tk1 (List.mem_of_getElem? (i := 211) (by decide +kernel)) rfl
theorem wd_323 : Cond.fieldLink "MourningHouse$Family" 27 "MourningHouse$Family" "toldOn" "[I" ∈ am_TW := am_tk1 (List.mem_of_getElem? (i := 212) (by decide +kernel)) rfl
theorem wd_324 : Cond.fieldLink "MourningHouse$Mourner" 50 "MourningHouse$Family" "toldOn" "[I" ∈ am_TW := am_tk1 (List.mem_of_getElem? (i := 213) (by decide +kernel)) rfl
theorem wd_325 : Cond.fieldLink "MourningHouse$Family" 30 "MourningHouse$Family" "died" "[I" ∈ am_TW := am_tk1 (List.mem_of_getElem? (i := 214) (by decide +kernel)) rfl
theorem wd_326 : Cond.fieldLink "MourningHouse$Mourner" 59 "MourningHouse$Family" "died" "[I" ∈ am_TW := am_tk1 (List.mem_of_getElem? (i := 215) (by decide +kernel)) rfl
theorem wd_327 : Cond.fieldLink "MourningHouse$Family" 33 "MourningHouse$Family" "diedKnown" "[I" ∈ am_TW := am_tk1 (List.mem_of_getElem? (i := 216) (by decide +kernel)) rfl
theorem wd_328 : Cond.fieldLink "MourningHouse$Mourner" 56 "MourningHouse$Family" "diedKnown" "[I" ∈ am_TW := am_tk1 (List.mem_of_getElem? (i := 217) (by decide +kernel)) rfl
theorem wd_329 : Cond.fieldLink "MourningHouse$Family" 36 "MourningHouse$Family" "parents" "[J" ∈ am_TW := am_tk1 (List.mem_of_getElem? (i := 218) (by decide +kernel)) rfl
theorem wd_330 : Cond.fieldLink "MourningHouse$Family" 40 "MourningHouse$Family" "children" "[J" ∈ am_TW := am_tk1 (List.mem_of_getElem? (i := 219) (by decide +kernel)) rfl
theorem wd_331 : Cond.fieldLink "MourningHouse$Family" 43 "MourningHouse$Family" "siblings" "[J" ∈ am_TW := am_tk1 (List.mem_of_getElem? (i := 220) (by decide +kernel)) rfl
theorem wd_332 : Cond.fieldLink "MourningHouse$Family" 46 "MourningHouse$Family" "husbands" "[I" ∈ am_TW := am_tk1 (List.mem_of_getElem? (i := 221) (by decide +kernel)) rfl
theorem wd_333 : Cond.fieldLink "MourningHouse$Family" 49 "MourningHouse$Family" "wives" "[I" ∈ am_TW := am_tk1 (List.mem_of_getElem? (i := 222) (by decide +kernel)) rfl
theorem wd_334 : Cond.fieldLink "MourningHouse$Family" 52 "MourningHouse$Family" "wedDays" "[I" ∈ am_TW := am_tk1 (List.mem_of_getElem? (i := 223) (by decide +kernel)) rfl
theorem wd_335 : Cond.fieldLink "MourningHouse$Family" 55 "MourningHouse$Family" "wedTold" "[I" ∈ am_TW := am_tk1 (List.mem_of_getElem? (i := 224) (by decide +kernel)) rfl
theorem wd_336 : Cond.fieldLink "MourningHouse$Family" 58 "MourningHouse$Family" "spouses" "[J" ∈ am_TW := am_tk1 (List.mem_of_getElem? (i := 225) (by decide +kernel)) rfl
theorem wd_337 : Cond.fieldLink "MourningHouse$Family" 61 "MourningHouse$Family" "men" "J" ∈ am_TW := am_tk1 (List.mem_of_getElem? (i := 226) (by decide +kernel)) rfl
theorem wd_338 : Cond.fieldLink "MourningHouse$Family" 65 "MourningHouse$Family" "gathered" "J" ∈ am_TW := am_tk1 (List.mem_of_getElem? (i := 227) (by decide +kernel)) rfl
theorem wd_339 : Cond.fieldLink "MourningHouse$Family" 68 "MourningHouse$Family" "people" "I" ∈ am_TW := am_tk1 (List.mem_of_getElem? (i := 228) (by decide +kernel)) rfl
theorem wd_340 : Cond.fieldLink "MourningHouse$Mourner" 85 "MourningHouse$Family" "people" "I" ∈ am_TW := am_tk1 (List.mem_of_getElem? (i := 229) (by decide +kernel)) rfl
theorem wd_341 : Cond.fieldLink "MourningHouse" 298 "MourningHouse$Family" "people" "I" ∈ am_TW := am_tk1 (List.mem_of_getElem? (i := 230) (by decide +kernel)) rfl
theorem wd_342 : Cond.fieldLink "MourningHouse$Family" 72 "MourningHouse$Family" "marriages" "I" ∈ am_TW := am_tk1 (List.mem_of_getElem? (i := 231) (by decide +kernel)) rfl
theorem wd_343 : Cond.fieldLink "MourningHouse" 301 "MourningHouse$Family" "marriages" "I" ∈ am_TW := am_tk1 (List.mem_of_getElem? (i := 232) (by decide +kernel)) rfl
theorem wd_399 : Cond.fieldLink "MourningHouse$Mourning" 11 "MourningHouse$Mourning" "ends" "[I" ∈ am_TW := am_tk2 (List.mem_of_getElem? (i := 48) (by decide +kernel)) rfl
theorem wd_400 : Cond.fieldLink "MourningHouse$Mourning" 17 "MourningHouse$Mourning" "depths" "[I" ∈ am_TW := am_tk2 (List.mem_of_getElem? (i := 49) (by decide +kernel)) rfl
theorem wd_401 : Cond.fieldLink "MourningHouse$Mourning" 20 "MourningHouse$Mourning" "parts" "I" ∈ am_TW := am_tk2 (List.mem_of_getElem? (i := 50) (by decide +kernel)) rfl
theorem wd_402 : Cond.fieldLink "MourningHouse$Mourning" 24 "MourningHouse$Mourning" "dead" "I" ∈ am_TW := am_tk2 (List.mem_of_getElem? (i := 51) (by decide +kernel)) rfl
theorem wd_403 : Cond.fieldLink "MourningHouse$Mourner" 213 "MourningHouse$Mourning" "dead" "I" ∈ am_TW := am_tk2 (List.mem_of_getElem? (i := 52) (by decide +kernel)) rfl
theorem wd_404 : Cond.fieldLink "MourningHouse$Mourning" 27 "MourningHouse$Mourning" "begin" "I" ∈ am_TW := am_tk2 (List.mem_of_getElem? (i := 53) (by decide +kernel)) rfl
theorem wd_405 : Cond.fieldLink "MourningHouse$Mourner" 158 "MourningHouse$Mourning" "begin" "I" ∈ am_TW := am_tk2 (List.mem_of_getElem? (i := 54) (by decide +kernel)) rfl
theorem wd_406 : Cond.fieldLink "MourningHouse$Mourning" 30 "MourningHouse$Mourning" "waits" "Z" ∈ am_TW := am_tk2 (List.mem_of_getElem? (i := 55) (by decide +kernel)) rfl
theorem wd_407 : Cond.fieldLink "MourningHouse$Mourning" 34 "MourningHouse$Mourning" "firm" "Z" ∈ am_TW := am_tk2 (List.mem_of_getElem? (i := 56) (by decide +kernel)) rfl
theorem wd_408 : Cond.fieldLink "MourningHouse$Mourner" 150 "MourningHouse$Mourning" "firm" "Z" ∈ am_TW := am_tk2 (List.mem_of_getElem? (i := 57) (by decide +kernel)) rfl
theorem wd_409 : Cond.fieldLink "MourningHouse$Mourning" 37 "MourningHouse$Mourning" "over" "Z" ∈ am_TW := am_tk2 (List.mem_of_getElem? (i := 58) (by decide +kernel)) rfl
theorem wd_410 : Cond.fieldLink "MourningHouse$Mourner" 161 "MourningHouse$Mourning" "over" "Z" ∈ am_TW := am_tk2 (List.mem_of_getElem? (i := 59) (by decide +kernel)) rfl
theorem wd_411 : Cond.fieldLink "MourningHouse$Mourning" 40 "MourningHouse$Mourning" "lastDay" "I" ∈ am_TW := am_tk2 (List.mem_of_getElem? (i := 60) (by decide +kernel)) rfl
theorem wd_412 : Cond.fieldLink "MourningHouse$Mourner" 216 "MourningHouse$Mourning" "lastDay" "I" ∈ am_TW := am_tk2 (List.mem_of_getElem? (i := 61) (by decide +kernel)) rfl
theorem wd_413 : Cond.fieldLink "MourningHouse$Mourning" 43 "MourningHouse$Mourning" "gone" "I" ∈ am_TW := am_tk2 (List.mem_of_getElem? (i := 62) (by decide +kernel)) rfl
theorem wd_414 : Cond.fieldLink "MourningHouse$Mourning" 46 "MourningHouse$Mourning" "part" "I" ∈ am_TW := am_tk2 (List.mem_of_getElem? (i := 63) (by decide +kernel)) rfl
theorem wd_438 : Cond.fieldLink "MourningHouse$Mourner" 41 "MourningHouse$Mourner" "family" "LMourningHouse$Family;" ∈ am_TW := am_tk2 (List.mem_of_getElem? (i := 87) (by decide +kernel)) rfl
theorem wd_439 : Cond.fieldLink "MourningHouse$Mourner" 45 "MourningHouse$Mourner" "decrees" "LMourningHouse$Decrees;" ∈ am_TW := am_tk2 (List.mem_of_getElem? (i := 88) (by decide +kernel)) rfl
theorem wd_440 : Cond.fieldLink "MourningHouse$Mourner" 15 "MourningHouse$Mourner" "mournings" "[LMourningHouse$Mourning;" ∈ am_TW := am_tk2 (List.mem_of_getElem? (i := 89) (by decide +kernel)) rfl
theorem wd_441 : Cond.fieldLink "MourningHouse$Mourner" 19 "MourningHouse$Mourner" "count" "I" ∈ am_TW := am_tk2 (List.mem_of_getElem? (i := 90) (by decide +kernel)) rfl
theorem wd_442 : Cond.fieldLink "MourningHouse$Mourner" 23 "MourningHouse$Mourner" "who" "I" ∈ am_TW := am_tk2 (List.mem_of_getElem? (i := 91) (by decide +kernel)) rfl
theorem wd_443 : Cond.fieldLink "MourningHouse$Mourner" 26 "MourningHouse$Mourner" "known" "I" ∈ am_TW := am_tk2 (List.mem_of_getElem? (i := 92) (by decide +kernel)) rfl
theorem wd_444 : Cond.fieldLink "MourningHouse$Mourner" 29 "MourningHouse$Mourner" "today" "I" ∈ am_TW := am_tk2 (List.mem_of_getElem? (i := 93) (by decide +kernel)) rfl
theorem wd_445 : Cond.fieldLink "MourningHouse$Mourner" 32 "MourningHouse$Mourner" "changes" "I" ∈ am_TW := am_tk2 (List.mem_of_getElem? (i := 94) (by decide +kernel)) rfl
theorem wd_446 : Cond.fieldLink "MourningHouse$Mourner" 35 "MourningHouse$Mourner" "firmDepth" "I" ∈ am_TW := am_tk2 (List.mem_of_getElem? (i := 95) (by decide +kernel)) rfl
theorem wd_447 : Cond.fieldLink "MourningHouse$Mourner" 38 "MourningHouse$Mourner" "otherDepth" "I" ∈ am_TW := am_tk2 (List.mem_of_getElem? (i := 96) (by decide +kernel)) rfl
theorem wd_475 : Cond.fieldLink "MourningHouse$Wardrobe" 11 "MourningHouse$Wardrobe" "sizes" "[I" ∈ am_TW := am_tk2 (List.mem_of_getElem? (i := 124) (by decide +kernel)) rfl
theorem wd_476 : Cond.fieldLink "MourningHouse" 285 "MourningHouse$Wardrobe" "sizes" "[I" ∈ am_TW := am_tk2 (List.mem_of_getElem? (i := 125) (by decide +kernel)) rfl
theorem wd_477 : Cond.fieldLink "MourningHouse$Wardrobe" 15 "MourningHouse$Wardrobe" "stuffs" "[I" ∈ am_TW := am_tk2 (List.mem_of_getElem? (i := 126) (by decide +kernel)) rfl
theorem wd_478 : Cond.fieldLink "MourningHouse" 288 "MourningHouse$Wardrobe" "stuffs" "[I" ∈ am_TW := am_tk2 (List.mem_of_getElem? (i := 127) (by decide +kernel)) rfl
theorem wd_479 : Cond.fieldLink "MourningHouse$Wardrobe" 18 "MourningHouse$Wardrobe" "away" "[Z" ∈ am_TW := am_tk2 (List.mem_of_getElem? (i := 128) (by decide +kernel)) rfl
theorem wd_480 : Cond.fieldLink "MourningHouse" 291 "MourningHouse$Wardrobe" "away" "[Z" ∈ am_TW := am_tk2 (List.mem_of_getElem? (i := 129) (by decide +kernel)) rfl
theorem wd_481 : Cond.fieldLink "MourningHouse$Wardrobe" 22 "MourningHouse$Wardrobe" "cloths" "[I" ∈ am_TW := am_tk2 (List.mem_of_getElem? (i := 130) (by decide +kernel)) rfl
theorem wd_482 : Cond.fieldLink "MourningHouse$Planner" 98 "MourningHouse$Wardrobe" "cloths" "[I" ∈ am_TW := am_tk2 (List.mem_of_getElem? (i := 131) (by decide +kernel)) rfl
theorem wd_483 : Cond.fieldLink "MourningHouse$Wardrobe" 25 "MourningHouse$Wardrobe" "taskDresses" "[I" ∈ am_TW := am_tk2 (List.mem_of_getElem? (i := 132) (by decide +kernel)) rfl
theorem wd_484 : Cond.fieldLink "MourningHouse$Wardrobe" 28 "MourningHouse$Wardrobe" "taskSizes" "[I" ∈ am_TW := am_tk2 (List.mem_of_getElem? (i := 133) (by decide +kernel)) rfl
theorem wd_485 : Cond.fieldLink "MourningHouse$Wardrobe" 31 "MourningHouse$Wardrobe" "taskStuffs" "[I" ∈ am_TW := am_tk2 (List.mem_of_getElem? (i := 134) (by decide +kernel)) rfl
theorem wd_486 : Cond.fieldLink "MourningHouse$Wardrobe" 34 "MourningHouse$Wardrobe" "taskLeft" "[I" ∈ am_TW := am_tk2 (List.mem_of_getElem? (i := 135) (by decide +kernel)) rfl
theorem wd_487 : Cond.fieldLink "MourningHouse$Planner" 74 "MourningHouse$Wardrobe" "taskLeft" "[I" ∈ am_TW := am_tk2 (List.mem_of_getElem? (i := 136) (by decide +kernel)) rfl
theorem wd_488 : Cond.fieldLink "MourningHouse$Wardrobe" 37 "MourningHouse$Wardrobe" "dresses" "I" ∈ am_TW := am_tk2 (List.mem_of_getElem? (i := 137) (by decide +kernel)) rfl
theorem wd_489 : Cond.fieldLink "MourningHouse" 307 "MourningHouse$Wardrobe" "dresses" "I" ∈ am_TW := am_tk2 (List.mem_of_getElem? (i := 138) (by decide +kernel)) rfl
theorem wd_490 : Cond.fieldLink "MourningHouse$Wardrobe" 41 "MourningHouse$Wardrobe" "tasks" "I" ∈ am_TW := am_tk2 (List.mem_of_getElem? (i := 139) (by decide +kernel)) rfl
theorem wd_491 : Cond.fieldLink "MourningHouse$Planner" 64 "MourningHouse$Wardrobe" "tasks" "I" ∈ am_TW := am_tk2 (List.mem_of_getElem? (i := 140) (by decide +kernel)) rfl
theorem wd_492 : Cond.fieldLink "MourningHouse" 310 "MourningHouse$Wardrobe" "tasks" "I" ∈ am_TW := am_tk2 (List.mem_of_getElem? (i := 141) (by decide +kernel)) rfl
theorem wd_493 : Cond.fieldLink "MourningHouse$Wardrobe" 44 "MourningHouse$Wardrobe" "hands" "I" ∈ am_TW := am_tk2 (List.mem_of_getElem? (i := 142) (by decide +kernel)) rfl
theorem wd_494 : Cond.fieldLink "MourningHouse$Planner" 67 "MourningHouse$Wardrobe" "hands" "I" ∈ am_TW := am_tk2 (List.mem_of_getElem? (i := 143) (by decide +kernel)) rfl
theorem wd_495 : Cond.fieldLink "MourningHouse" 260 "MourningHouse$Wardrobe" "hands" "I" ∈ am_TW := am_tk2 (List.mem_of_getElem? (i := 144) (by decide +kernel)) rfl
theorem wd_496 : Cond.fieldLink "MourningHouse$Wardrobe" 47 "MourningHouse$Wardrobe" "inMaking" "I" ∈ am_TW := am_tk2 (List.mem_of_getElem? (i := 145) (by decide +kernel)) rfl
theorem wd_529 : Cond.fieldLink "MourningHouse$Planner" 52 "MourningHouse$Planner" "wardrobe" "LMourningHouse$Wardrobe;" ∈ am_TW := am_tk2 (List.mem_of_getElem? (i := 178) (by decide +kernel)) rfl
theorem wd_530 : Cond.fieldLink "MourningHouse$Planner" 11 "MourningHouse$Planner" "sizes" "[I" ∈ am_TW := am_tk2 (List.mem_of_getElem? (i := 179) (by decide +kernel)) rfl
theorem wd_531 : Cond.fieldLink "MourningHouse$Planner" 15 "MourningHouse$Planner" "needs" "[I" ∈ am_TW := am_tk2 (List.mem_of_getElem? (i := 180) (by decide +kernel)) rfl
theorem wd_532 : Cond.fieldLink "MourningHouse$Planner" 18 "MourningHouse$Planner" "ways" "[I" ∈ am_TW := am_tk2 (List.mem_of_getElem? (i := 181) (by decide +kernel)) rfl
theorem wd_533 : Cond.fieldLink "MourningHouse$Planner" 21 "MourningHouse$Planner" "picks" "[I" ∈ am_TW := am_tk2 (List.mem_of_getElem? (i := 182) (by decide +kernel)) rfl
theorem wd_534 : Cond.fieldLink "MourningHouse$Planner" 24 "MourningHouse$Planner" "bestWays" "[I" ∈ am_TW := am_tk2 (List.mem_of_getElem? (i := 183) (by decide +kernel)) rfl
theorem wd_535 : Cond.fieldLink "MourningHouse$Planner" 27 "MourningHouse$Planner" "bestPicks" "[I" ∈ am_TW := am_tk2 (List.mem_of_getElem? (i := 184) (by decide +kernel)) rfl
theorem wd_536 : Cond.fieldLink "MourningHouse$Planner" 32 "MourningHouse$Planner" "clothsUsed" "[I" ∈ am_TW := am_tk2 (List.mem_of_getElem? (i := 185) (by decide +kernel)) rfl
theorem wd_537 : Cond.fieldLink "MourningHouse$Planner" 35 "MourningHouse$Planner" "handDays" "[I" ∈ am_TW := am_tk2 (List.mem_of_getElem? (i := 186) (by decide +kernel)) rfl
theorem wd_538 : Cond.fieldLink "MourningHouse$Planner" 38 "MourningHouse$Planner" "count" "I" ∈ am_TW := am_tk2 (List.mem_of_getElem? (i := 187) (by decide +kernel)) rfl
theorem wd_539 : Cond.fieldLink "MourningHouse$Planner" 42 "MourningHouse$Planner" "days" "I" ∈ am_TW := am_tk2 (List.mem_of_getElem? (i := 188) (by decide +kernel)) rfl
theorem wd_540 : Cond.fieldLink "MourningHouse$Planner" 45 "MourningHouse$Planner" "bestCost" "I" ∈ am_TW := am_tk2 (List.mem_of_getElem? (i := 189) (by decide +kernel)) rfl
theorem wd_541 : Cond.fieldLink "MourningHouse$Planner" 48 "MourningHouse$Planner" "taken" "J" ∈ am_TW := am_tk2 (List.mem_of_getElem? (i := 190) (by decide +kernel)) rfl
theorem wd_569 : Cond.fieldLink "MourningHouse" 10 "MourningHouse" "reader" "LMourningHouse$Reader;" ∈ am_TW := am_tk2 (List.mem_of_getElem? (i := 218) (by decide +kernel)) rfl
theorem wd_570 : Cond.fieldLink "MourningHouse" 19 "MourningHouse" "page" "LMourningHouse$Page;" ∈ am_TW := am_tk2 (List.mem_of_getElem? (i := 219) (by decide +kernel)) rfl
theorem wd_571 : Cond.fieldLink "MourningHouse" 26 "MourningHouse" "decrees" "LMourningHouse$Decrees;" ∈ am_TW := am_tk2 (List.mem_of_getElem? (i := 220) (by decide +kernel)) rfl
theorem wd_572 : Cond.fieldLink "MourningHouse" 33 "MourningHouse" "family" "LMourningHouse$Family;" ∈ am_TW := am_tk2 (List.mem_of_getElem? (i := 221) (by decide +kernel)) rfl
theorem wd_573 : Cond.fieldLink "MourningHouse" 42 "MourningHouse" "mourner" "LMourningHouse$Mourner;" ∈ am_TW := am_tk2 (List.mem_of_getElem? (i := 222) (by decide +kernel)) rfl
theorem wd_574 : Cond.fieldLink "MourningHouse" 49 "MourningHouse" "wardrobe" "LMourningHouse$Wardrobe;" ∈ am_TW := am_tk2 (List.mem_of_getElem? (i := 223) (by decide +kernel)) rfl
theorem wd_575 : Cond.fieldLink "MourningHouse" 58 "MourningHouse" "planner" "LMourningHouse$Planner;" ∈ am_TW := am_tk2 (List.mem_of_getElem? (i := 224) (by decide +kernel)) rfl
theorem wd_576 : Cond.fieldLink "MourningHouse" 62 "MourningHouse" "deedWho" "[I" ∈ am_TW := am_tk2 (List.mem_of_getElem? (i := 225) (by decide +kernel)) rfl
theorem wd_577 : Cond.fieldLink "MourningHouse" 66 "MourningHouse" "deedAct" "[I" ∈ am_TW := am_tk2 (List.mem_of_getElem? (i := 226) (by decide +kernel)) rfl
theorem wd_578 : Cond.fieldLink "MourningHouse" 69 "MourningHouse" "deedDay" "[I" ∈ am_TW := am_tk2 (List.mem_of_getElem? (i := 227) (by decide +kernel)) rfl
theorem wd_579 : Cond.fieldLink "MourningHouse" 72 "MourningHouse" "allowed" "[I" ∈ am_TW := am_tk2 (List.mem_of_getElem? (i := 228) (by decide +kernel)) rfl
theorem wd_580 : Cond.fieldLink "MourningHouse" 75 "MourningHouse" "deeds" "I" ∈ am_TW := am_tk2 (List.mem_of_getElem? (i := 229) (by decide +kernel)) rfl
theorem wd_581 : Cond.fieldLink "MourningHouse" 79 "MourningHouse" "now" "I" ∈ am_TW := am_tk2 (List.mem_of_getElem? (i := 230) (by decide +kernel)) rfl
theorem wd_613 : Cond.methodLink "MourningHouse" 82 ⟨"MourningHouse$Reader", "hasRoom", "()Z"⟩ ∈ am_TW := am_tk3 (List.mem_of_getElem? (i := 22) (by decide +kernel)) rfl
theorem wd_614 : Cond.instanceMethod ⟨"MourningHouse$Reader", "hasRoom", "()Z"⟩ ∈ am_TW := am_tk3 (List.mem_of_getElem? (i := 23) (by decide +kernel)) rfl
theorem wd_615 : Cond.selects "MourningHouse$Reader" ⟨"MourningHouse$Reader", "hasRoom", "()Z"⟩ ⟨"MourningHouse$Reader", "hasRoom", "()Z"⟩ ∈ am_TW := am_tk3 (List.mem_of_getElem? (i := 24) (by decide +kernel)) rfl
theorem wd_617 : Cond.methodLink "MourningHouse" 86 ⟨"MourningHouse$Reader", "append", "(I)V"⟩ ∈ am_TW := am_tk3 (List.mem_of_getElem? (i := 26) (by decide +kernel)) rfl
theorem wd_618 : Cond.instanceMethod ⟨"MourningHouse$Reader", "append", "(I)V"⟩ ∈ am_TW := am_tk3 (List.mem_of_getElem? (i := 27) (by decide +kernel)) rfl
theorem wd_619 : Cond.selects "MourningHouse$Reader" ⟨"MourningHouse$Reader", "append", "(I)V"⟩ ⟨"MourningHouse$Reader", "append", "(I)V"⟩ ∈ am_TW := am_tk3 (List.mem_of_getElem? (i := 28) (by decide +kernel)) rfl
theorem wd_629 : Cond.methodLink "MourningHouse" 93 ⟨"MourningHouse$Decrees", "blankLaw", "()LMourningHouse$Law;"⟩ ∈ am_TW := am_tk3 (List.mem_of_getElem? (i := 38) (by decide +kernel)) rfl
theorem wd_630 : Cond.instanceMethod ⟨"MourningHouse$Decrees", "blankLaw", "()LMourningHouse$Law;"⟩ ∈ am_TW := am_tk3 (List.mem_of_getElem? (i := 39) (by decide +kernel)) rfl
theorem wd_631 : Cond.selects "MourningHouse$Decrees" ⟨"MourningHouse$Decrees", "blankLaw", "()LMourningHouse$Law;"⟩ ⟨"MourningHouse$Decrees", "blankLaw", "()LMourningHouse$Law;"⟩ ∈ am_TW := am_tk3 (List.mem_of_getElem? (i := 40) (by decide +kernel)) rfl
theorem wd_633 : Cond.methodLink "MourningHouse" 97 ⟨"MourningHouse$Reader", "readInto", "(LMourningHouse$Law;)Z"⟩ ∈ am_TW := am_tk3 (List.mem_of_getElem? (i := 42) (by decide +kernel)) rfl
theorem wd_634 : Cond.instanceMethod ⟨"MourningHouse$Reader", "readInto", "(LMourningHouse$Law;)Z"⟩ ∈ am_TW := am_tk3 (List.mem_of_getElem? (i := 43) (by decide +kernel)) rfl
theorem wd_635 : Cond.selects "MourningHouse$Reader" ⟨"MourningHouse$Reader", "readInto", "(LMourningHouse$Law;)Z"⟩ ⟨"MourningHouse$Reader", "readInto", "(LMourningHouse$Law;)Z"⟩ ∈ am_TW := am_tk3 (List.mem_of_getElem? (i := 44) (by decide +kernel)) rfl
theorem wd_637 : Cond.methodLink "MourningHouse$Reader" 42 ⟨"MourningHouse$Law", "clear", "()V"⟩ ∈ am_TW := am_tk3 (List.mem_of_getElem? (i := 46) (by decide +kernel)) rfl
theorem wd_638 : Cond.instanceMethod ⟨"MourningHouse$Law", "clear", "()V"⟩ ∈ am_TW := am_tk3 (List.mem_of_getElem? (i := 47) (by decide +kernel)) rfl
theorem wd_639 : Cond.selects "MourningHouse$Law" ⟨"MourningHouse$Law", "clear", "()V"⟩ ⟨"MourningHouse$Law", "clear", "()V"⟩ ∈ am_TW := am_tk3 (List.mem_of_getElem? (i := 48) (by decide +kernel)) rfl
theorem wd_641 : Cond.methodLink "MourningHouse$Reader" 47 ⟨"MourningHouse$Reader", "readLine", "(LMourningHouse$Law;II)Z"⟩ ∈ am_TW := am_tk3 (List.mem_of_getElem? (i := 50) (by decide +kernel)) rfl
theorem wd_643 : Cond.instanceMethod ⟨"MourningHouse$Reader", "readLine", "(LMourningHouse$Law;II)Z"⟩ ∈ am_TW := am_tk3 (List.mem_of_getElem? (i := 52) (by decide +kernel)) rfl
theorem wd_645 : Cond.methodLink "MourningHouse$Reader" 51 ⟨"MourningHouse$Reader", "findTokens", "(II)Z"⟩ ∈ am_TW := am_tk3 (List.mem_of_getElem? (i := 54) (by decide +kernel)) rfl
theorem wd_647 : Cond.instanceMethod ⟨"MourningHouse$Reader", "findTokens", "(II)Z"⟩ ∈ am_TW := am_tk3 (List.mem_of_getElem? (i := 56) (by decide +kernel)) rfl
theorem wd_649 : Cond.methodLink "MourningHouse$Reader" 82 ⟨"MourningHouse$Reader", "endOfToken", "(II)I"⟩ ∈ am_TW := am_tk3 (List.mem_of_getElem? (i := 58) (by decide +kernel)) rfl
theorem wd_651 : Cond.instanceMethod ⟨"MourningHouse$Reader", "endOfToken", "(II)I"⟩ ∈ am_TW := am_tk3 (List.mem_of_getElem? (i := 60) (by decide +kernel)) rfl
theorem wd_653 : Cond.methodLink "MourningHouse$Reader" 100 ⟨"MourningHouse$Reader", "isLetter", "(C)Z"⟩ ∈ am_TW := am_tk3 (List.mem_of_getElem? (i := 62) (by decide +kernel)) rfl
theorem wd_654 : Cond.static ⟨"MourningHouse$Reader", "isLetter", "(C)Z"⟩ ∈ am_TW := am_tk3 (List.mem_of_getElem? (i := 63) (by decide +kernel)) rfl
theorem wd_656 : Cond.methodLink "MourningHouse$Reader" 104 ⟨"MourningHouse$Reader", "isDigit", "(C)Z"⟩ ∈ am_TW := am_tk3 (List.mem_of_getElem? (i := 65) (by decide +kernel)) rfl
theorem wd_657 : Cond.static ⟨"MourningHouse$Reader", "isDigit", "(C)Z"⟩ ∈ am_TW := am_tk3 (List.mem_of_getElem? (i := 66) (by decide +kernel)) rfl
theorem wd_659 : Cond.methodLink "MourningHouse$Reader" 86 ⟨"MourningHouse$Reader", "kindOf", "(II)I"⟩ ∈ am_TW := am_tk3 (List.mem_of_getElem? (i := 68) (by decide +kernel)) rfl
theorem wd_661 : Cond.instanceMethod ⟨"MourningHouse$Reader", "kindOf", "(II)I"⟩ ∈ am_TW := am_tk3 (List.mem_of_getElem? (i := 70) (by decide +kernel)) rfl
theorem wd_663 : Cond.methodLink "MourningHouse$Reader" 107 ⟨"MourningHouse$Words", "codeOf", "([CII)I"⟩ ∈ am_TW := am_tk3 (List.mem_of_getElem? (i := 72) (by decide +kernel)) rfl
theorem wd_664 : Cond.static ⟨"MourningHouse$Words", "codeOf", "([CII)I"⟩ ∈ am_TW := am_tk3 (List.mem_of_getElem? (i := 73) (by decide +kernel)) rfl
theorem wd_666 : Cond.methodLink "MourningHouse$Words" 99 ⟨"MourningHouse$Words", "nameOf", "(I)Ljava/lang/String;"⟩ ∈ am_TW := am_tk3 (List.mem_of_getElem? (i := 75) (by decide +kernel)) rfl
theorem wd_667 : Cond.static ⟨"MourningHouse$Words", "nameOf", "(I)Ljava/lang/String;"⟩ ∈ am_TW := am_tk3 (List.mem_of_getElem? (i := 76) (by decide +kernel)) rfl
theorem wd_669 : Cond.methodLink "MourningHouse$Words" 9 ⟨"MourningHouse$Words", "kinOrColour", "(I)Ljava/lang/String;"⟩ ∈ am_TW := am_tk3 (List.mem_of_getElem? (i := 78) (by decide +kernel)) rfl
theorem wd_670 : Cond.static ⟨"MourningHouse$Words", "kinOrColour", "(I)Ljava/lang/String;"⟩ ∈ am_TW := am_tk3 (List.mem_of_getElem? (i := 79) (by decide +kernel)) rfl
theorem wd_689 : Cond.methodLink "MourningHouse$Words" 13 ⟨"MourningHouse$Words", "termOrOption", "(I)Ljava/lang/String;"⟩ ∈ am_TW := am_tk3 (List.mem_of_getElem? (i := 98) (by decide +kernel)) rfl
theorem wd_690 : Cond.static ⟨"MourningHouse$Words", "termOrOption", "(I)Ljava/lang/String;"⟩ ∈ am_TW := am_tk3 (List.mem_of_getElem? (i := 99) (by decide +kernel)) rfl
theorem wd_704 : Cond.methodLink "MourningHouse$Words" 16 ⟨"MourningHouse$Words", "lineWord", "(I)Ljava/lang/String;"⟩ ∈ am_TW := am_tk3 (List.mem_of_getElem? (i := 113) (by decide +kernel)) rfl
theorem wd_705 : Cond.static ⟨"MourningHouse$Words", "lineWord", "(I)Ljava/lang/String;"⟩ ∈ am_TW := am_tk3 (List.mem_of_getElem? (i := 114) (by decide +kernel)) rfl
theorem wd_718 : Cond.methodLink "MourningHouse$Words" 102 ⟨"MourningHouse$Words", "isAt", "(Ljava/lang/String;[CII)Z"⟩ ∈ am_TW := am_tk3 (List.mem_of_getElem? (i := 127) (by decide +kernel)) rfl
theorem wd_719 : Cond.static ⟨"MourningHouse$Words", "isAt", "(Ljava/lang/String;[CII)Z"⟩ ∈ am_TW := am_tk3 (List.mem_of_getElem? (i := 128) (by decide +kernel)) rfl
theorem wd_721 : Cond.methodLink "MourningHouse$Words" 106 ⟨"java/lang/String", "length", "()I"⟩ ∈ am_TW := am_tk3 (List.mem_of_getElem? (i := 130) (by decide +kernel)) rfl
theorem wd_722 : Cond.instanceMethod ⟨"java/lang/String", "length", "()I"⟩ ∈ am_TW := am_tk3 (List.mem_of_getElem? (i := 131) (by decide +kernel)) rfl
theorem wd_723 : Cond.selects "java/lang/String" ⟨"java/lang/String", "length", "()I"⟩ ⟨"java/lang/String", "length", "()I"⟩ ∈ am_TW := am_tk3 (List.mem_of_getElem? (i := 132) (by decide +kernel)) rfl
theorem wd_731 : Cond.methodLink "MourningHouse$Words" 112 ⟨"java/lang/String", "charAt", "(I)C"⟩ ∈ am_TW := am_tk3 (List.mem_of_getElem? (i := 140) (by decide +kernel)) rfl
theorem wd_732 : Cond.instanceMethod ⟨"java/lang/String", "charAt", "(I)C"⟩ ∈ am_TW := am_tk3 (List.mem_of_getElem? (i := 141) (by decide +kernel)) rfl
theorem wd_733 : Cond.selects "java/lang/String" ⟨"java/lang/String", "charAt", "(I)C"⟩ ⟨"java/lang/String", "charAt", "(I)C"⟩ ∈ am_TW := am_tk3 (List.mem_of_getElem? (i := 142) (by decide +kernel)) rfl
theorem wd_769 : Cond.methodLink "MourningHouse$Reader" 111 ⟨"MourningHouse$Words", "signOf", "(C)I"⟩ ∈ am_TW := am_tk3 (List.mem_of_getElem? (i := 178) (by decide +kernel)) rfl
theorem wd_770 : Cond.static ⟨"MourningHouse$Words", "signOf", "(C)I"⟩ ∈ am_TW := am_tk3 (List.mem_of_getElem? (i := 179) (by decide +kernel)) rfl
theorem wd_772 : Cond.methodLink "MourningHouse$Reader" 91 ⟨"MourningHouse$Reader", "keepToken", "(III)V"⟩ ∈ am_TW := am_tk3 (List.mem_of_getElem? (i := 181) (by decide +kernel)) rfl
theorem wd_774 : Cond.instanceMethod ⟨"MourningHouse$Reader", "keepToken", "(III)V"⟩ ∈ am_TW := am_tk3 (List.mem_of_getElem? (i := 183) (by decide +kernel)) rfl
theorem wd_776 : Cond.methodLink "MourningHouse$Reader" 115 ⟨"MourningHouse$Reader", "valueOf", "(II)I"⟩ ∈ am_TW := am_tk3 (List.mem_of_getElem? (i := 185) (by decide +kernel)) rfl
theorem wd_778 : Cond.instanceMethod ⟨"MourningHouse$Reader", "valueOf", "(II)I"⟩ ∈ am_TW := am_tk3 (List.mem_of_getElem? (i := 187) (by decide +kernel)) rfl
theorem wd_780 : Cond.constant "MourningHouse$Reader" 118 (100000) ∈ am_TW := am_tk3 (List.mem_of_getElem? (i := 189) (by decide +kernel)) rfl
theorem wd_781 : Cond.methodLink "MourningHouse$Reader" 119 ⟨"java/lang/Math", "min", "(II)I"⟩ ∈ am_TW := am_tk3 (List.mem_of_getElem? (i := 190) (by decide +kernel)) rfl
theorem wd_784 : Cond.methodLink "MourningHouse$Reader" 95 ⟨"java/lang/Math", "max", "(II)I"⟩ ∈ am_TW := am_tk3 (List.mem_of_getElem? (i := 193) (by decide +kernel)) rfl
theorem wd_787 : Cond.methodLink "MourningHouse$Reader" 55 ⟨"MourningHouse$Reader", "fail", "(I)Z"⟩ ∈ am_TW := am_tk3 (List.mem_of_getElem? (i := 196) (by decide +kernel)) rfl
theorem wd_789 : Cond.instanceMethod ⟨"MourningHouse$Reader", "fail", "(I)Z"⟩ ∈ am_TW := am_tk3 (List.mem_of_getElem? (i := 198) (by decide +kernel)) rfl
theorem wd_791 : Cond.methodLink "MourningHouse$Reader" 59 ⟨"MourningHouse$Reader", "codeAt", "(I)I"⟩ ∈ am_TW := am_tk3 (List.mem_of_getElem? (i := 200) (by decide +kernel)) rfl
theorem wd_793 : Cond.instanceMethod ⟨"MourningHouse$Reader", "codeAt", "(I)I"⟩ ∈ am_TW := am_tk3 (List.mem_of_getElem? (i := 202) (by decide +kernel)) rfl
theorem wd_795 : Cond.methodLink "MourningHouse$Reader" 63 ⟨"MourningHouse$Reader", "readRule", "(LMourningHouse$Law;)Z"⟩ ∈ am_TW := am_tk3 (List.mem_of_getElem? (i := 204) (by decide +kernel)) rfl
theorem wd_797 : Cond.instanceMethod ⟨"MourningHouse$Reader", "readRule", "(LMourningHouse$Law;)Z"⟩ ∈ am_TW := am_tk3 (List.mem_of_getElem? (i := 206) (by decide +kernel)) rfl
theorem wd_799 : Cond.methodLink "MourningHouse$Reader" 132 ⟨"MourningHouse$Law", "hasRoomForRule", "()Z"⟩ ∈ am_TW := am_tk3 (List.mem_of_getElem? (i := 208) (by decide +kernel)) rfl
theorem wd_800 : Cond.instanceMethod ⟨"MourningHouse$Law", "hasRoomForRule", "()Z"⟩ ∈ am_TW := am_tk3 (List.mem_of_getElem? (i := 209) (by decide +kernel)) rfl
theorem wd_801 : Cond.selects "MourningHouse$Law" ⟨"MourningHouse$Law", "hasRoomForRule", "()Z"⟩ ⟨"MourningHouse$Law", "hasRoomForRule", "()Z"⟩ ∈ am_TW := am_tk3 (List.mem_of_getElem? (i := 210) (by decide +kernel)) rfl
theorem wd_803 : Cond.methodLink "MourningHouse$Reader" 136 ⟨"MourningHouse$Law", "openRule", "()V"⟩ ∈ am_TW := am_tk3 (List.mem_of_getElem? (i := 212) (by decide +kernel)) rfl
theorem wd_804 : Cond.instanceMethod ⟨"MourningHouse$Law", "openRule", "()V"⟩ ∈ am_TW := am_tk3 (List.mem_of_getElem? (i := 213) (by decide +kernel)) rfl
theorem wd_805 : Cond.selects "MourningHouse$Law" ⟨"MourningHouse$Law", "openRule", "()V"⟩ ⟨"MourningHouse$Law", "openRule", "()V"⟩ ∈ am_TW := am_tk3 (List.mem_of_getElem? (i := 214) (by decide +kernel)) rfl
theorem wd_807 : Cond.methodLink "MourningHouse$Reader" 139 ⟨"MourningHouse$Reader", "readKin", "(LMourningHouse$Law;)Z"⟩ ∈ am_TW := am_tk3 (List.mem_of_getElem? (i := 216) (by decide +kernel)) rfl
theorem wd_809 : Cond.instanceMethod ⟨"MourningHouse$Reader", "readKin", "(LMourningHouse$Law;)Z"⟩ ∈ am_TW := am_tk3 (List.mem_of_getElem? (i := 218) (by decide +kernel)) rfl
theorem wd_811 : Cond.methodLink "MourningHouse$Reader" 148 ⟨"MourningHouse$Words", "isKin", "(I)Z"⟩ ∈ am_TW := am_tk3 (List.mem_of_getElem? (i := 220) (by decide +kernel)) rfl
theorem wd_812 : Cond.static ⟨"MourningHouse$Words", "isKin", "(I)Z"⟩ ∈ am_TW := am_tk3 (List.mem_of_getElem? (i := 221) (by decide +kernel)) rfl
theorem wd_814 : Cond.methodLink "MourningHouse$Reader" 151 ⟨"MourningHouse$Law", "addKin", "(I)Z"⟩ ∈ am_TW := am_tk3 (List.mem_of_getElem? (i := 223) (by decide +kernel)) rfl
theorem wd_815 : Cond.instanceMethod ⟨"MourningHouse$Law", "addKin", "(I)Z"⟩ ∈ am_TW := am_tk3 (List.mem_of_getElem? (i := 224) (by decide +kernel)) rfl
theorem wd_816 : Cond.selects "MourningHouse$Law" ⟨"MourningHouse$Law", "addKin", "(I)Z"⟩ ⟨"MourningHouse$Law", "addKin", "(I)Z"⟩ ∈ am_TW := am_tk3 (List.mem_of_getElem? (i := 225) (by decide +kernel)) rfl
theorem wd_818 : Cond.methodLink "MourningHouse$Reader" 142 ⟨"MourningHouse$Reader", "readParts", "(LMourningHouse$Law;)Z"⟩ ∈ am_TW := am_tk3 (List.mem_of_getElem? (i := 227) (by decide +kernel)) rfl
theorem wd_820 : Cond.instanceMethod ⟨"MourningHouse$Reader", "readParts", "(LMourningHouse$Law;)Z"⟩ ∈ am_TW := am_tk3 (List.mem_of_getElem? (i := 229) (by decide +kernel)) rfl
theorem wd_822 : Cond.methodLink "MourningHouse$Reader" 154 ⟨"MourningHouse$Reader", "readPart", "(LMourningHouse$Law;)Z"⟩ ∈ am_TW := am_tk3 (List.mem_of_getElem? (i := 231) (by decide +kernel)) rfl
theorem wd_824 : Cond.instanceMethod ⟨"MourningHouse$Reader", "readPart", "(LMourningHouse$Law;)Z"⟩ ∈ am_TW := am_tk3 (List.mem_of_getElem? (i := 233) (by decide +kernel)) rfl
theorem wd_826 : Cond.methodLink "MourningHouse$Reader" 157 ⟨"MourningHouse$Words", "isMourning", "(I)Z"⟩ ∈ am_TW := am_tk3 (List.mem_of_getElem? (i := 235) (by decide +kernel)) rfl
theorem wd_827 : Cond.static ⟨"MourningHouse$Words", "isMourning", "(I)Z"⟩ ∈ am_TW := am_tk3 (List.mem_of_getElem? (i := 236) (by decide +kernel)) rfl
theorem wd_829 : Cond.methodLink "MourningHouse$Reader" 160 ⟨"MourningHouse$Law", "hasRoomForPart", "()Z"⟩ ∈ am_TW := am_tk3 (List.mem_of_getElem? (i := 238) (by decide +kernel)) rfl
theorem wd_830 : Cond.instanceMethod ⟨"MourningHouse$Law", "hasRoomForPart", "()Z"⟩ ∈ am_TW := am_tk3 (List.mem_of_getElem? (i := 239) (by decide +kernel)) rfl
theorem wd_831 : Cond.selects "MourningHouse$Law" ⟨"MourningHouse$Law", "hasRoomForPart", "()Z"⟩ ⟨"MourningHouse$Law", "hasRoomForPart", "()Z"⟩ ∈ am_TW := am_tk4 (List.mem_of_getElem? (i := 0) (by decide +kernel)) rfl
theorem wd_833 : Cond.methodLink "MourningHouse$Reader" 163 ⟨"MourningHouse$Reader", "depthAt", "(I)I"⟩ ∈ am_TW := am_tk4 (List.mem_of_getElem? (i := 2) (by decide +kernel)) rfl
theorem wd_835 : Cond.instanceMethod ⟨"MourningHouse$Reader", "depthAt", "(I)I"⟩ ∈ am_TW := am_tk4 (List.mem_of_getElem? (i := 4) (by decide +kernel)) rfl
theorem wd_837 : Cond.methodLink "MourningHouse$Reader" 166 ⟨"MourningHouse$Law", "isLighter", "(I)Z"⟩ ∈ am_TW := am_tk4 (List.mem_of_getElem? (i := 6) (by decide +kernel)) rfl
theorem wd_838 : Cond.instanceMethod ⟨"MourningHouse$Law", "isLighter", "(I)Z"⟩ ∈ am_TW := am_tk4 (List.mem_of_getElem? (i := 7) (by decide +kernel)) rfl
theorem wd_839 : Cond.selects "MourningHouse$Law" ⟨"MourningHouse$Law", "isLighter", "(I)Z"⟩ ⟨"MourningHouse$Law", "isLighter", "(I)Z"⟩ ∈ am_TW := am_tk4 (List.mem_of_getElem? (i := 8) (by decide +kernel)) rfl
theorem wd_841 : Cond.methodLink "MourningHouse$Reader" 169 ⟨"MourningHouse$Reader", "expectNumber", "(II)Z"⟩ ∈ am_TW := am_tk4 (List.mem_of_getElem? (i := 10) (by decide +kernel)) rfl
theorem wd_843 : Cond.instanceMethod ⟨"MourningHouse$Reader", "expectNumber", "(II)Z"⟩ ∈ am_TW := am_tk4 (List.mem_of_getElem? (i := 12) (by decide +kernel)) rfl
theorem wd_845 : Cond.methodLink "MourningHouse$Reader" 122 ⟨"MourningHouse$Reader", "value", "()I"⟩ ∈ am_TW := am_tk4 (List.mem_of_getElem? (i := 14) (by decide +kernel)) rfl
theorem wd_847 : Cond.instanceMethod ⟨"MourningHouse$Reader", "value", "()I"⟩ ∈ am_TW := am_tk4 (List.mem_of_getElem? (i := 16) (by decide +kernel)) rfl
theorem wd_849 : Cond.methodLink "MourningHouse$Reader" 172 ⟨"MourningHouse$Words", "isUnit", "(I)Z"⟩ ∈ am_TW := am_tk4 (List.mem_of_getElem? (i := 18) (by decide +kernel)) rfl
theorem wd_850 : Cond.static ⟨"MourningHouse$Words", "isUnit", "(I)Z"⟩ ∈ am_TW := am_tk4 (List.mem_of_getElem? (i := 19) (by decide +kernel)) rfl
theorem wd_852 : Cond.methodLink "MourningHouse$Reader" 175 ⟨"MourningHouse$Law", "addPart", "(III)V"⟩ ∈ am_TW := am_tk4 (List.mem_of_getElem? (i := 21) (by decide +kernel)) rfl
theorem wd_853 : Cond.instanceMethod ⟨"MourningHouse$Law", "addPart", "(III)V"⟩ ∈ am_TW := am_tk4 (List.mem_of_getElem? (i := 22) (by decide +kernel)) rfl
theorem wd_854 : Cond.selects "MourningHouse$Law" ⟨"MourningHouse$Law", "addPart", "(III)V"⟩ ⟨"MourningHouse$Law", "addPart", "(III)V"⟩ ∈ am_TW := am_tk4 (List.mem_of_getElem? (i := 23) (by decide +kernel)) rfl
theorem wd_856 : Cond.methodLink "MourningHouse$Reader" 145 ⟨"MourningHouse$Reader", "readOptions", "(LMourningHouse$Law;)Z"⟩ ∈ am_TW := am_tk4 (List.mem_of_getElem? (i := 25) (by decide +kernel)) rfl
theorem wd_858 : Cond.instanceMethod ⟨"MourningHouse$Reader", "readOptions", "(LMourningHouse$Law;)Z"⟩ ∈ am_TW := am_tk4 (List.mem_of_getElem? (i := 27) (by decide +kernel)) rfl
theorem wd_860 : Cond.methodLink "MourningHouse$Reader" 178 ⟨"MourningHouse$Words", "isOption", "(I)Z"⟩ ∈ am_TW := am_tk4 (List.mem_of_getElem? (i := 29) (by decide +kernel)) rfl
theorem wd_861 : Cond.static ⟨"MourningHouse$Words", "isOption", "(I)Z"⟩ ∈ am_TW := am_tk4 (List.mem_of_getElem? (i := 30) (by decide +kernel)) rfl
theorem wd_863 : Cond.methodLink "MourningHouse$Reader" 181 ⟨"MourningHouse$Law", "addOption", "(I)Z"⟩ ∈ am_TW := am_tk4 (List.mem_of_getElem? (i := 32) (by decide +kernel)) rfl
theorem wd_864 : Cond.instanceMethod ⟨"MourningHouse$Law", "addOption", "(I)Z"⟩ ∈ am_TW := am_tk4 (List.mem_of_getElem? (i := 33) (by decide +kernel)) rfl
theorem wd_865 : Cond.selects "MourningHouse$Law" ⟨"MourningHouse$Law", "addOption", "(I)Z"⟩ ⟨"MourningHouse$Law", "addOption", "(I)Z"⟩ ∈ am_TW := am_tk4 (List.mem_of_getElem? (i := 34) (by decide +kernel)) rfl
theorem wd_867 : Cond.methodLink "MourningHouse$Reader" 129 ⟨"MourningHouse$Reader", "expect", "(I)Z"⟩ ∈ am_TW := am_tk4 (List.mem_of_getElem? (i := 36) (by decide +kernel)) rfl
theorem wd_869 : Cond.instanceMethod ⟨"MourningHouse$Reader", "expect", "(I)Z"⟩ ∈ am_TW := am_tk4 (List.mem_of_getElem? (i := 38) (by decide +kernel)) rfl
theorem wd_871 : Cond.methodLink "MourningHouse$Reader" 67 ⟨"MourningHouse$Reader", "readMay", "(LMourningHouse$Law;)Z"⟩ ∈ am_TW := am_tk4 (List.mem_of_getElem? (i := 40) (by decide +kernel)) rfl
theorem wd_873 : Cond.instanceMethod ⟨"MourningHouse$Reader", "readMay", "(LMourningHouse$Law;)Z"⟩ ∈ am_TW := am_tk4 (List.mem_of_getElem? (i := 42) (by decide +kernel)) rfl
theorem wd_875 : Cond.methodLink "MourningHouse$Reader" 184 ⟨"MourningHouse$Words", "isAct", "(I)Z"⟩ ∈ am_TW := am_tk4 (List.mem_of_getElem? (i := 44) (by decide +kernel)) rfl
theorem wd_876 : Cond.static ⟨"MourningHouse$Words", "isAct", "(I)Z"⟩ ∈ am_TW := am_tk4 (List.mem_of_getElem? (i := 45) (by decide +kernel)) rfl
theorem wd_878 : Cond.methodLink "MourningHouse$Reader" 187 ⟨"MourningHouse$Reader", "expectStuff", "()Z"⟩ ∈ am_TW := am_tk4 (List.mem_of_getElem? (i := 47) (by decide +kernel)) rfl
theorem wd_880 : Cond.instanceMethod ⟨"MourningHouse$Reader", "expectStuff", "()Z"⟩ ∈ am_TW := am_tk4 (List.mem_of_getElem? (i := 49) (by decide +kernel)) rfl
theorem wd_882 : Cond.methodLink "MourningHouse$Reader" 126 ⟨"MourningHouse$Words", "isStuff", "(I)Z"⟩ ∈ am_TW := am_tk4 (List.mem_of_getElem? (i := 51) (by decide +kernel)) rfl
theorem wd_883 : Cond.static ⟨"MourningHouse$Words", "isStuff", "(I)Z"⟩ ∈ am_TW := am_tk4 (List.mem_of_getElem? (i := 52) (by decide +kernel)) rfl
theorem wd_885 : Cond.methodLink "MourningHouse$Reader" 70 ⟨"MourningHouse$Reader", "readFeast", "(LMourningHouse$Law;)Z"⟩ ∈ am_TW := am_tk4 (List.mem_of_getElem? (i := 54) (by decide +kernel)) rfl
theorem wd_887 : Cond.instanceMethod ⟨"MourningHouse$Reader", "readFeast", "(LMourningHouse$Law;)Z"⟩ ∈ am_TW := am_tk4 (List.mem_of_getElem? (i := 56) (by decide +kernel)) rfl
theorem wd_889 : Cond.methodLink "MourningHouse$Reader" 193 ⟨"MourningHouse$Law", "hasRoomForFeast", "()Z"⟩ ∈ am_TW := am_tk4 (List.mem_of_getElem? (i := 58) (by decide +kernel)) rfl
theorem wd_890 : Cond.instanceMethod ⟨"MourningHouse$Law", "hasRoomForFeast", "()Z"⟩ ∈ am_TW := am_tk4 (List.mem_of_getElem? (i := 59) (by decide +kernel)) rfl
theorem wd_891 : Cond.selects "MourningHouse$Law" ⟨"MourningHouse$Law", "hasRoomForFeast", "()Z"⟩ ⟨"MourningHouse$Law", "hasRoomForFeast", "()Z"⟩ ∈ am_TW := am_tk4 (List.mem_of_getElem? (i := 60) (by decide +kernel)) rfl
theorem wd_893 : Cond.methodLink "MourningHouse$Reader" 196 ⟨"MourningHouse$Calendar", "lengthOf", "(II)I"⟩ ∈ am_TW := am_tk4 (List.mem_of_getElem? (i := 62) (by decide +kernel)) rfl
theorem wd_894 : Cond.static ⟨"MourningHouse$Calendar", "lengthOf", "(II)I"⟩ ∈ am_TW := am_tk4 (List.mem_of_getElem? (i := 63) (by decide +kernel)) rfl
theorem wd_896 : Cond.methodLink "MourningHouse$Reader" 201 ⟨"MourningHouse$Law", "addFeast", "(II)V"⟩ ∈ am_TW := am_tk4 (List.mem_of_getElem? (i := 65) (by decide +kernel)) rfl
theorem wd_897 : Cond.instanceMethod ⟨"MourningHouse$Law", "addFeast", "(II)V"⟩ ∈ am_TW := am_tk4 (List.mem_of_getElem? (i := 66) (by decide +kernel)) rfl
theorem wd_898 : Cond.selects "MourningHouse$Law" ⟨"MourningHouse$Law", "addFeast", "(II)V"⟩ ⟨"MourningHouse$Law", "addFeast", "(II)V"⟩ ∈ am_TW := am_tk4 (List.mem_of_getElem? (i := 67) (by decide +kernel)) rfl
theorem wd_900 : Cond.methodLink "MourningHouse$Reader" 73 ⟨"MourningHouse$Reader", "readHeir", "(LMourningHouse$Law;)Z"⟩ ∈ am_TW := am_tk4 (List.mem_of_getElem? (i := 69) (by decide +kernel)) rfl
theorem wd_902 : Cond.instanceMethod ⟨"MourningHouse$Reader", "readHeir", "(LMourningHouse$Law;)Z"⟩ ∈ am_TW := am_tk4 (List.mem_of_getElem? (i := 71) (by decide +kernel)) rfl
theorem wd_904 : Cond.methodLink "MourningHouse$Reader" 76 ⟨"MourningHouse$Reader", "readUnder", "(LMourningHouse$Law;)Z"⟩ ∈ am_TW := am_tk4 (List.mem_of_getElem? (i := 73) (by decide +kernel)) rfl
theorem wd_906 : Cond.instanceMethod ⟨"MourningHouse$Reader", "readUnder", "(LMourningHouse$Law;)Z"⟩ ∈ am_TW := am_tk4 (List.mem_of_getElem? (i := 75) (by decide +kernel)) rfl
theorem wd_908 : Cond.methodLink "MourningHouse$Reader" 79 ⟨"MourningHouse$Reader", "readWedding", "(LMourningHouse$Law;)Z"⟩ ∈ am_TW := am_tk4 (List.mem_of_getElem? (i := 77) (by decide +kernel)) rfl
theorem wd_910 : Cond.instanceMethod ⟨"MourningHouse$Reader", "readWedding", "(LMourningHouse$Law;)Z"⟩ ∈ am_TW := am_tk4 (List.mem_of_getElem? (i := 79) (by decide +kernel)) rfl
theorem wd_912 : Cond.methodLink "MourningHouse" 101 ⟨"MourningHouse$Decrees", "enact", "(LMourningHouse$Law;I)V"⟩ ∈ am_TW := am_tk4 (List.mem_of_getElem? (i := 81) (by decide +kernel)) rfl
theorem wd_913 : Cond.instanceMethod ⟨"MourningHouse$Decrees", "enact", "(LMourningHouse$Law;I)V"⟩ ∈ am_TW := am_tk4 (List.mem_of_getElem? (i := 82) (by decide +kernel)) rfl
theorem wd_914 : Cond.selects "MourningHouse$Decrees" ⟨"MourningHouse$Decrees", "enact", "(LMourningHouse$Law;I)V"⟩ ⟨"MourningHouse$Decrees", "enact", "(LMourningHouse$Law;I)V"⟩ ∈ am_TW := am_tk4 (List.mem_of_getElem? (i := 83) (by decide +kernel)) rfl
theorem wd_925 : Cond.methodLink "MourningHouse" 119 ⟨"MourningHouse$Decrees", "lawNumbered", "(I)LMourningHouse$Law;"⟩ ∈ am_TW := am_tk4 (List.mem_of_getElem? (i := 94) (by decide +kernel)) rfl
theorem wd_926 : Cond.instanceMethod ⟨"MourningHouse$Decrees", "lawNumbered", "(I)LMourningHouse$Law;"⟩ ∈ am_TW := am_tk4 (List.mem_of_getElem? (i := 95) (by decide +kernel)) rfl
theorem wd_927 : Cond.selects "MourningHouse$Decrees" ⟨"MourningHouse$Decrees", "lawNumbered", "(I)LMourningHouse$Law;"⟩ ⟨"MourningHouse$Decrees", "lawNumbered", "(I)LMourningHouse$Law;"⟩ ∈ am_TW := am_tk4 (List.mem_of_getElem? (i := 96) (by decide +kernel)) rfl
theorem wd_929 : Cond.methodLink "MourningHouse" 123 ⟨"MourningHouse$Law", "hasRule", "(I)Z"⟩ ∈ am_TW := am_tk4 (List.mem_of_getElem? (i := 98) (by decide +kernel)) rfl
theorem wd_930 : Cond.instanceMethod ⟨"MourningHouse$Law", "hasRule", "(I)Z"⟩ ∈ am_TW := am_tk4 (List.mem_of_getElem? (i := 99) (by decide +kernel)) rfl
theorem wd_931 : Cond.selects "MourningHouse$Law" ⟨"MourningHouse$Law", "hasRule", "(I)Z"⟩ ⟨"MourningHouse$Law", "hasRule", "(I)Z"⟩ ∈ am_TW := am_tk4 (List.mem_of_getElem? (i := 100) (by decide +kernel)) rfl
theorem wd_933 : Cond.methodLink "MourningHouse" 127 ⟨"MourningHouse$Law", "spell", "(ILMourningHouse$Page;)V"⟩ ∈ am_TW := am_tk4 (List.mem_of_getElem? (i := 102) (by decide +kernel)) rfl
theorem wd_934 : Cond.instanceMethod ⟨"MourningHouse$Law", "spell", "(ILMourningHouse$Page;)V"⟩ ∈ am_TW := am_tk4 (List.mem_of_getElem? (i := 103) (by decide +kernel)) rfl
theorem wd_935 : Cond.selects "MourningHouse$Law" ⟨"MourningHouse$Law", "spell", "(ILMourningHouse$Page;)V"⟩ ⟨"MourningHouse$Law", "spell", "(ILMourningHouse$Page;)V"⟩ ∈ am_TW := am_tk4 (List.mem_of_getElem? (i := 104) (by decide +kernel)) rfl
theorem wd_937 : Cond.methodLink "MourningHouse$Law" 78 ⟨"MourningHouse$Page", "clear", "()V"⟩ ∈ am_TW := am_tk4 (List.mem_of_getElem? (i := 106) (by decide +kernel)) rfl
theorem wd_938 : Cond.instanceMethod ⟨"MourningHouse$Page", "clear", "()V"⟩ ∈ am_TW := am_tk4 (List.mem_of_getElem? (i := 107) (by decide +kernel)) rfl
theorem wd_939 : Cond.selects "MourningHouse$Page" ⟨"MourningHouse$Page", "clear", "()V"⟩ ⟨"MourningHouse$Page", "clear", "()V"⟩ ∈ am_TW := am_tk4 (List.mem_of_getElem? (i := 108) (by decide +kernel)) rfl
theorem wd_941 : Cond.methodLink "MourningHouse$Law" 85 ⟨"MourningHouse$Page", "addWord", "(I)V"⟩ ∈ am_TW := am_tk4 (List.mem_of_getElem? (i := 110) (by decide +kernel)) rfl
theorem wd_942 : Cond.instanceMethod ⟨"MourningHouse$Page", "addWord", "(I)V"⟩ ∈ am_TW := am_tk4 (List.mem_of_getElem? (i := 111) (by decide +kernel)) rfl
theorem wd_943 : Cond.selects "MourningHouse$Page" ⟨"MourningHouse$Page", "addWord", "(I)V"⟩ ⟨"MourningHouse$Page", "addWord", "(I)V"⟩ ∈ am_TW := am_tk4 (List.mem_of_getElem? (i := 112) (by decide +kernel)) rfl
theorem wd_945 : Cond.methodLink "MourningHouse$Page" 31 ⟨"MourningHouse$Words", "nameOf", "(I)Ljava/lang/String;"⟩ ∈ am_TW := am_tk4 (List.mem_of_getElem? (i := 114) (by decide +kernel)) rfl
theorem wd_946 : Cond.methodLink "MourningHouse$Page" 37 ⟨"MourningHouse$Page", "add", "(Ljava/lang/String;)V"⟩ ∈ am_TW := am_tk4 (List.mem_of_getElem? (i := 115) (by decide +kernel)) rfl
theorem wd_947 : Cond.instanceMethod ⟨"MourningHouse$Page", "add", "(Ljava/lang/String;)V"⟩ ∈ am_TW := am_tk4 (List.mem_of_getElem? (i := 116) (by decide +kernel)) rfl
theorem wd_948 : Cond.selects "MourningHouse$Page" ⟨"MourningHouse$Page", "add", "(Ljava/lang/String;)V"⟩ ⟨"MourningHouse$Page", "add", "(Ljava/lang/String;)V"⟩ ∈ am_TW := am_tk4 (List.mem_of_getElem? (i := 117) (by decide +kernel)) rfl
theorem wd_950 : Cond.methodLink "MourningHouse$Page" 17 ⟨"java/lang/String", "length", "()I"⟩ ∈ am_TW := am_tk4 (List.mem_of_getElem? (i := 119) (by decide +kernel)) rfl
theorem wd_951 : Cond.methodLink "MourningHouse$Page" 23 ⟨"java/lang/String", "charAt", "(I)C"⟩ ∈ am_TW := am_tk4 (List.mem_of_getElem? (i := 120) (by decide +kernel)) rfl
theorem wd_952 : Cond.methodLink "MourningHouse$Page" 27 ⟨"MourningHouse$Page", "addByte", "(C)V"⟩ ∈ am_TW := am_tk4 (List.mem_of_getElem? (i := 121) (by decide +kernel)) rfl
theorem wd_954 : Cond.instanceMethod ⟨"MourningHouse$Page", "addByte", "(C)V"⟩ ∈ am_TW := am_tk4 (List.mem_of_getElem? (i := 123) (by decide +kernel)) rfl
theorem wd_958 : Cond.methodLink "MourningHouse$Law" 93 ⟨"MourningHouse$Page", "add", "(Ljava/lang/String;)V"⟩ ∈ am_TW := am_tk4 (List.mem_of_getElem? (i := 127) (by decide +kernel)) rfl
theorem wd_959 : Cond.methodLink "MourningHouse$Law" 97 ⟨"MourningHouse$Law", "kinWord", "(II)I"⟩ ∈ am_TW := am_tk4 (List.mem_of_getElem? (i := 128) (by decide +kernel)) rfl
theorem wd_960 : Cond.instanceMethod ⟨"MourningHouse$Law", "kinWord", "(II)I"⟩ ∈ am_TW := am_tk4 (List.mem_of_getElem? (i := 129) (by decide +kernel)) rfl
theorem wd_961 : Cond.selects "MourningHouse$Law" ⟨"MourningHouse$Law", "kinWord", "(II)I"⟩ ⟨"MourningHouse$Law", "kinWord", "(II)I"⟩ ∈ am_TW := am_tk4 (List.mem_of_getElem? (i := 130) (by decide +kernel)) rfl
theorem wd_965 : Cond.methodLink "MourningHouse$Law" 104 ⟨"MourningHouse$Page", "addNumber", "(I)V"⟩ ∈ am_TW := am_tk4 (List.mem_of_getElem? (i := 134) (by decide +kernel)) rfl
theorem wd_966 : Cond.instanceMethod ⟨"MourningHouse$Page", "addNumber", "(I)V"⟩ ∈ am_TW := am_tk4 (List.mem_of_getElem? (i := 135) (by decide +kernel)) rfl
theorem wd_967 : Cond.selects "MourningHouse$Page" ⟨"MourningHouse$Page", "addNumber", "(I)V"⟩ ⟨"MourningHouse$Page", "addNumber", "(I)V"⟩ ∈ am_TW := am_tk4 (List.mem_of_getElem? (i := 136) (by decide +kernel)) rfl
theorem wd_969 : Cond.methodLink "MourningHouse$Law" 107 ⟨"MourningHouse$Law", "hasOption", "(II)Z"⟩ ∈ am_TW := am_tk4 (List.mem_of_getElem? (i := 138) (by decide +kernel)) rfl
theorem wd_970 : Cond.instanceMethod ⟨"MourningHouse$Law", "hasOption", "(II)Z"⟩ ∈ am_TW := am_tk4 (List.mem_of_getElem? (i := 139) (by decide +kernel)) rfl
theorem wd_971 : Cond.selects "MourningHouse$Law" ⟨"MourningHouse$Law", "hasOption", "(II)Z"⟩ ⟨"MourningHouse$Law", "hasOption", "(II)Z"⟩ ∈ am_TW := am_tk4 (List.mem_of_getElem? (i := 140) (by decide +kernel)) rfl
theorem wd_980 : Cond.methodLink "MourningHouse" 132 ⟨"MourningHouse$Page", "has", "(I)Z"⟩ ∈ am_TW := am_tk4 (List.mem_of_getElem? (i := 149) (by decide +kernel)) rfl
theorem wd_981 : Cond.instanceMethod ⟨"MourningHouse$Page", "has", "(I)Z"⟩ ∈ am_TW := am_tk4 (List.mem_of_getElem? (i := 150) (by decide +kernel)) rfl
theorem wd_982 : Cond.selects "MourningHouse$Page" ⟨"MourningHouse$Page", "has", "(I)Z"⟩ ⟨"MourningHouse$Page", "has", "(I)Z"⟩ ∈ am_TW := am_tk4 (List.mem_of_getElem? (i := 151) (by decide +kernel)) rfl
theorem wd_988 : Cond.methodLink "MourningHouse" 139 ⟨"MourningHouse$Law", "quarrelNumbered", "(I)I"⟩ ∈ am_TW := am_tk4 (List.mem_of_getElem? (i := 157) (by decide +kernel)) rfl
theorem wd_989 : Cond.instanceMethod ⟨"MourningHouse$Law", "quarrelNumbered", "(I)I"⟩ ∈ am_TW := am_tk4 (List.mem_of_getElem? (i := 158) (by decide +kernel)) rfl
theorem wd_990 : Cond.selects "MourningHouse$Law" ⟨"MourningHouse$Law", "quarrelNumbered", "(I)I"⟩ ⟨"MourningHouse$Law", "quarrelNumbered", "(I)I"⟩ ∈ am_TW := am_tk4 (List.mem_of_getElem? (i := 159) (by decide +kernel)) rfl
theorem wd_992 : Cond.methodLink "MourningHouse$Law" 117 ⟨"MourningHouse$Law", "isSameKin", "(II)Z"⟩ ∈ am_TW := am_tk4 (List.mem_of_getElem? (i := 161) (by decide +kernel)) rfl
theorem wd_994 : Cond.instanceMethod ⟨"MourningHouse$Law", "isSameKin", "(II)Z"⟩ ∈ am_TW := am_tk4 (List.mem_of_getElem? (i := 163) (by decide +kernel)) rfl
theorem wd_996 : Cond.methodLink "MourningHouse$Law" 120 ⟨"MourningHouse$Law", "isSameOtherwise", "(II)Z"⟩ ∈ am_TW := am_tk4 (List.mem_of_getElem? (i := 165) (by decide +kernel)) rfl
theorem wd_998 : Cond.instanceMethod ⟨"MourningHouse$Law", "isSameOtherwise", "(II)Z"⟩ ∈ am_TW := am_tk4 (List.mem_of_getElem? (i := 167) (by decide +kernel)) rfl
theorem wd_1004 : Cond.methodLink "MourningHouse" 143 ⟨"MourningHouse$Calendar", "has", "(I)Z"⟩ ∈ am_TW := am_tk4 (List.mem_of_getElem? (i := 173) (by decide +kernel)) rfl
theorem wd_1005 : Cond.static ⟨"MourningHouse$Calendar", "has", "(I)Z"⟩ ∈ am_TW := am_tk4 (List.mem_of_getElem? (i := 174) (by decide +kernel)) rfl
theorem wd_1007 : Cond.constant "MourningHouse$Calendar" 9 (-36524) ∈ am_TW := am_tk4 (List.mem_of_getElem? (i := 176) (by decide +kernel)) rfl
theorem wd_1008 : Cond.constant "MourningHouse$Calendar" 10 (73047) ∈ am_TW := am_tk4 (List.mem_of_getElem? (i := 177) (by decide +kernel)) rfl
theorem wd_1009 : Cond.methodLink "MourningHouse" 146 ⟨"MourningHouse$Calendar", "dateOf", "(I)I"⟩ ∈ am_TW := am_tk4 (List.mem_of_getElem? (i := 178) (by decide +kernel)) rfl
theorem wd_1010 : Cond.static ⟨"MourningHouse$Calendar", "dateOf", "(I)I"⟩ ∈ am_TW := am_tk4 (List.mem_of_getElem? (i := 179) (by decide +kernel)) rfl
theorem wd_1012 : Cond.constant "MourningHouse$Calendar" 17 (657377) ∈ am_TW := am_tk4 (List.mem_of_getElem? (i := 181) (by decide +kernel)) rfl
theorem wd_1013 : Cond.constant "MourningHouse$Calendar" 16 (146097) ∈ am_TW := am_tk4 (List.mem_of_getElem? (i := 182) (by decide +kernel)) rfl
theorem wd_1014 : Cond.constant "MourningHouse$Calendar" 18 (36524) ∈ am_TW := am_tk4 (List.mem_of_getElem? (i := 183) (by decide +kernel)) rfl
theorem wd_1015 : Cond.constant "MourningHouse$Calendar" 19 (146096) ∈ am_TW := am_tk4 (List.mem_of_getElem? (i := 184) (by decide +kernel)) rfl
theorem wd_1020 : Cond.methodLink "MourningHouse" 149 ⟨"MourningHouse$Calendar", "hasDate", "(I)Z"⟩ ∈ am_TW := am_tk4 (List.mem_of_getElem? (i := 189) (by decide +kernel)) rfl
theorem wd_1021 : Cond.static ⟨"MourningHouse$Calendar", "hasDate", "(I)Z"⟩ ∈ am_TW := am_tk4 (List.mem_of_getElem? (i := 190) (by decide +kernel)) rfl
theorem wd_1023 : Cond.constant "MourningHouse$Calendar" 11 (17000000) ∈ am_TW := am_tk4 (List.mem_of_getElem? (i := 192) (by decide +kernel)) rfl
theorem wd_1024 : Cond.methodLink "MourningHouse$Calendar" 12 ⟨"MourningHouse$Calendar", "lengthOf", "(II)I"⟩ ∈ am_TW := am_tk4 (List.mem_of_getElem? (i := 193) (by decide +kernel)) rfl
theorem wd_1025 : Cond.methodLink "MourningHouse" 152 ⟨"MourningHouse$Calendar", "dayOf", "(III)I"⟩ ∈ am_TW := am_tk4 (List.mem_of_getElem? (i := 194) (by decide +kernel)) rfl
theorem wd_1026 : Cond.static ⟨"MourningHouse$Calendar", "dayOf", "(III)I"⟩ ∈ am_TW := am_tk4 (List.mem_of_getElem? (i := 195) (by decide +kernel)) rfl
theorem wd_1028 : Cond.constant "MourningHouse" 156 (-2147483648) ∈ am_TW := am_tk4 (List.mem_of_getElem? (i := 197) (by decide +kernel)) rfl
theorem wd_1033 : Cond.methodLink "MourningHouse" 157 ⟨"MourningHouse$Calendar", "later", "(II)I"⟩ ∈ am_TW := am_tk4 (List.mem_of_getElem? (i := 202) (by decide +kernel)) rfl
theorem wd_1034 : Cond.static ⟨"MourningHouse$Calendar", "later", "(II)I"⟩ ∈ am_TW := am_tk4 (List.mem_of_getElem? (i := 203) (by decide +kernel)) rfl
theorem wd_1036 : Cond.methodLink "MourningHouse$Calendar" 20 ⟨"MourningHouse$Calendar", "dateOf", "(I)I"⟩ ∈ am_TW := am_tk4 (List.mem_of_getElem? (i := 205) (by decide +kernel)) rfl
theorem wd_1037 : Cond.methodLink "MourningHouse$Calendar" 24 ⟨"java/lang/Math", "min", "(II)I"⟩ ∈ am_TW := am_tk4 (List.mem_of_getElem? (i := 206) (by decide +kernel)) rfl
theorem wd_1038 : Cond.methodLink "MourningHouse$Calendar" 29 ⟨"MourningHouse$Calendar", "dayOf", "(III)I"⟩ ∈ am_TW := am_tk4 (List.mem_of_getElem? (i := 207) (by decide +kernel)) rfl
theorem wd_1043 : Cond.constant "MourningHouse" 161 (73047) ∈ am_TW := am_tk4 (List.mem_of_getElem? (i := 212) (by decide +kernel)) rfl
theorem wd_1044 : Cond.methodLink "MourningHouse" 162 ⟨"java/lang/Math", "min", "(II)I"⟩ ∈ am_TW := am_tk4 (List.mem_of_getElem? (i := 213) (by decide +kernel)) rfl
theorem wd_1045 : Cond.methodLink "MourningHouse" 167 ⟨"MourningHouse$Wardrobe", "work", "(I)V"⟩ ∈ am_TW := am_tk4 (List.mem_of_getElem? (i := 214) (by decide +kernel)) rfl
theorem wd_1046 : Cond.instanceMethod ⟨"MourningHouse$Wardrobe", "work", "(I)V"⟩ ∈ am_TW := am_tk4 (List.mem_of_getElem? (i := 215) (by decide +kernel)) rfl
theorem wd_1047 : Cond.selects "MourningHouse$Wardrobe" ⟨"MourningHouse$Wardrobe", "work", "(I)V"⟩ ⟨"MourningHouse$Wardrobe", "work", "(I)V"⟩ ∈ am_TW := am_tk4 (List.mem_of_getElem? (i := 216) (by decide +kernel)) rfl
theorem wd_1049 : Cond.methodLink "MourningHouse$Wardrobe" 65 ⟨"MourningHouse$Wardrobe", "clearDone", "()V"⟩ ∈ am_TW := am_tk4 (List.mem_of_getElem? (i := 218) (by decide +kernel)) rfl
theorem wd_1051 : Cond.instanceMethod ⟨"MourningHouse$Wardrobe", "clearDone", "()V"⟩ ∈ am_TW := am_tk4 (List.mem_of_getElem? (i := 220) (by decide +kernel)) rfl
theorem wd_1053 : Cond.methodLink "MourningHouse$Wardrobe" 68 ⟨"MourningHouse$Wardrobe", "bring", "(I)V"⟩ ∈ am_TW := am_tk4 (List.mem_of_getElem? (i := 222) (by decide +kernel)) rfl
theorem wd_1055 : Cond.instanceMethod ⟨"MourningHouse$Wardrobe", "bring", "(I)V"⟩ ∈ am_TW := am_tk4 (List.mem_of_getElem? (i := 224) (by decide +kernel)) rfl
theorem wd_1057 : Cond.methodLink "MourningHouse$Wardrobe" 54 ⟨"MourningHouse$Wardrobe", "has", "(I)Z"⟩ ∈ am_TW := am_tk4 (List.mem_of_getElem? (i := 226) (by decide +kernel)) rfl
theorem wd_1058 : Cond.instanceMethod ⟨"MourningHouse$Wardrobe", "has", "(I)Z"⟩ ∈ am_TW := am_tk4 (List.mem_of_getElem? (i := 227) (by decide +kernel)) rfl
theorem wd_1059 : Cond.selects "MourningHouse$Wardrobe" ⟨"MourningHouse$Wardrobe", "has", "(I)Z"⟩ ⟨"MourningHouse$Wardrobe", "has", "(I)Z"⟩ ∈ am_TW := am_tk4 (List.mem_of_getElem? (i := 228) (by decide +kernel)) rfl
theorem wd_1061 : Cond.methodLink "MourningHouse$Wardrobe" 72 ⟨"MourningHouse$Wardrobe", "hang", "(II)I"⟩ ∈ am_TW := am_tk4 (List.mem_of_getElem? (i := 230) (by decide +kernel)) rfl
theorem wd_1062 : Cond.instanceMethod ⟨"MourningHouse$Wardrobe", "hang", "(II)I"⟩ ∈ am_TW := am_tk4 (List.mem_of_getElem? (i := 231) (by decide +kernel)) rfl
theorem wd_1063 : Cond.selects "MourningHouse$Wardrobe" ⟨"MourningHouse$Wardrobe", "hang", "(II)I"⟩ ⟨"MourningHouse$Wardrobe", "hang", "(II)I"⟩ ∈ am_TW := am_tk4 (List.mem_of_getElem? (i := 232) (by decide +kernel)) rfl
theorem wd_1069 : Cond.methodLink "MourningHouse" 170 ⟨"MourningHouse", "isPast", "(I)Z"⟩ ∈ am_TW := am_tk4 (List.mem_of_getElem? (i := 238) (by decide +kernel)) rfl
theorem wd_1071 : Cond.instanceMethod ⟨"MourningHouse", "isPast", "(I)Z"⟩ ∈ am_TW := am_tk5 (List.mem_of_getElem? (i := 0) (by decide +kernel)) rfl
theorem wd_1073 : Cond.methodLink "MourningHouse" 173 ⟨"MourningHouse$Family", "hasPlaceFor", "(IIII)Z"⟩ ∈ am_TW := am_tk5 (List.mem_of_getElem? (i := 2) (by decide +kernel)) rfl
theorem wd_1074 : Cond.instanceMethod ⟨"MourningHouse$Family", "hasPlaceFor", "(IIII)Z"⟩ ∈ am_TW := am_tk5 (List.mem_of_getElem? (i := 3) (by decide +kernel)) rfl
theorem wd_1075 : Cond.selects "MourningHouse$Family" ⟨"MourningHouse$Family", "hasPlaceFor", "(IIII)Z"⟩ ⟨"MourningHouse$Family", "hasPlaceFor", "(IIII)Z"⟩ ∈ am_TW := am_tk5 (List.mem_of_getElem? (i := 4) (by decide +kernel)) rfl
theorem wd_1077 : Cond.methodLink "MourningHouse$Family" 75 ⟨"MourningHouse$Family", "canBeParent", "(III)Z"⟩ ∈ am_TW := am_tk5 (List.mem_of_getElem? (i := 6) (by decide +kernel)) rfl
theorem wd_1079 : Cond.instanceMethod ⟨"MourningHouse$Family", "canBeParent", "(III)Z"⟩ ∈ am_TW := am_tk5 (List.mem_of_getElem? (i := 8) (by decide +kernel)) rfl
theorem wd_1081 : Cond.methodLink "MourningHouse$Family" 79 ⟨"MourningHouse$Family", "has", "(I)Z"⟩ ∈ am_TW := am_tk5 (List.mem_of_getElem? (i := 10) (by decide +kernel)) rfl
theorem wd_1082 : Cond.instanceMethod ⟨"MourningHouse$Family", "has", "(I)Z"⟩ ∈ am_TW := am_tk5 (List.mem_of_getElem? (i := 11) (by decide +kernel)) rfl
theorem wd_1083 : Cond.selects "MourningHouse$Family" ⟨"MourningHouse$Family", "has", "(I)Z"⟩ ⟨"MourningHouse$Family", "has", "(I)Z"⟩ ∈ am_TW := am_tk5 (List.mem_of_getElem? (i := 12) (by decide +kernel)) rfl
theorem wd_1085 : Cond.methodLink "MourningHouse" 177 ⟨"MourningHouse$Family", "add", "(IIIII)I"⟩ ∈ am_TW := am_tk5 (List.mem_of_getElem? (i := 14) (by decide +kernel)) rfl
theorem wd_1086 : Cond.instanceMethod ⟨"MourningHouse$Family", "add", "(IIIII)I"⟩ ∈ am_TW := am_tk5 (List.mem_of_getElem? (i := 15) (by decide +kernel)) rfl
theorem wd_1087 : Cond.selects "MourningHouse$Family" ⟨"MourningHouse$Family", "add", "(IIIII)I"⟩ ⟨"MourningHouse$Family", "add", "(IIIII)I"⟩ ∈ am_TW := am_tk5 (List.mem_of_getElem? (i := 16) (by decide +kernel)) rfl
theorem wd_1089 : Cond.constant "MourningHouse$Family" 83 (2147483647) ∈ am_TW := am_tk5 (List.mem_of_getElem? (i := 18) (by decide +kernel)) rfl
theorem wd_1090 : Cond.methodLink "MourningHouse$Family" 84 ⟨"MourningHouse$Family", "isMan", "(I)Z"⟩ ∈ am_TW := am_tk5 (List.mem_of_getElem? (i := 19) (by decide +kernel)) rfl
theorem wd_1091 : Cond.instanceMethod ⟨"MourningHouse$Family", "isMan", "(I)Z"⟩ ∈ am_TW := am_tk5 (List.mem_of_getElem? (i := 20) (by decide +kernel)) rfl
theorem wd_1092 : Cond.selects "MourningHouse$Family" ⟨"MourningHouse$Family", "isMan", "(I)Z"⟩ ⟨"MourningHouse$Family", "isMan", "(I)Z"⟩ ∈ am_TW := am_tk5 (List.mem_of_getElem? (i := 21) (by decide +kernel)) rfl
theorem wd_1094 : Cond.methodLink "MourningHouse$Family" 87 ⟨"MourningHouse$Family", "addChild", "(II)V"⟩ ∈ am_TW := am_tk5 (List.mem_of_getElem? (i := 23) (by decide +kernel)) rfl
theorem wd_1096 : Cond.instanceMethod ⟨"MourningHouse$Family", "addChild", "(II)V"⟩ ∈ am_TW := am_tk5 (List.mem_of_getElem? (i := 25) (by decide +kernel)) rfl
theorem wd_1102 : Cond.methodLink "MourningHouse" 181 ⟨"MourningHouse$Family", "has", "(I)Z"⟩ ∈ am_TW := am_tk5 (List.mem_of_getElem? (i := 31) (by decide +kernel)) rfl
theorem wd_1103 : Cond.methodLink "MourningHouse" 182 ⟨"MourningHouse$Family", "isToldDead", "(I)Z"⟩ ∈ am_TW := am_tk5 (List.mem_of_getElem? (i := 32) (by decide +kernel)) rfl
theorem wd_1104 : Cond.instanceMethod ⟨"MourningHouse$Family", "isToldDead", "(I)Z"⟩ ∈ am_TW := am_tk5 (List.mem_of_getElem? (i := 33) (by decide +kernel)) rfl
theorem wd_1105 : Cond.selects "MourningHouse$Family" ⟨"MourningHouse$Family", "isToldDead", "(I)Z"⟩ ⟨"MourningHouse$Family", "isToldDead", "(I)Z"⟩ ∈ am_TW := am_tk5 (List.mem_of_getElem? (i := 34) (by decide +kernel)) rfl
theorem wd_1107 : Cond.methodLink "MourningHouse" 188 ⟨"MourningHouse$Family", "bury", "(III)V"⟩ ∈ am_TW := am_tk5 (List.mem_of_getElem? (i := 36) (by decide +kernel)) rfl
theorem wd_1108 : Cond.instanceMethod ⟨"MourningHouse$Family", "bury", "(III)V"⟩ ∈ am_TW := am_tk5 (List.mem_of_getElem? (i := 37) (by decide +kernel)) rfl
theorem wd_1109 : Cond.selects "MourningHouse$Family" ⟨"MourningHouse$Family", "bury", "(III)V"⟩ ⟨"MourningHouse$Family", "bury", "(III)V"⟩ ∈ am_TW := am_tk5 (List.mem_of_getElem? (i := 38) (by decide +kernel)) rfl
theorem wd_1115 : Cond.methodLink "MourningHouse" 192 ⟨"MourningHouse$Family", "canMarry", "(III)Z"⟩ ∈ am_TW := am_tk5 (List.mem_of_getElem? (i := 44) (by decide +kernel)) rfl
theorem wd_1116 : Cond.instanceMethod ⟨"MourningHouse$Family", "canMarry", "(III)Z"⟩ ∈ am_TW := am_tk5 (List.mem_of_getElem? (i := 45) (by decide +kernel)) rfl
theorem wd_1117 : Cond.selects "MourningHouse$Family" ⟨"MourningHouse$Family", "canMarry", "(III)Z"⟩ ⟨"MourningHouse$Family", "canMarry", "(III)Z"⟩ ∈ am_TW := am_tk5 (List.mem_of_getElem? (i := 46) (by decide +kernel)) rfl
theorem wd_1119 : Cond.methodLink "MourningHouse" 196 ⟨"MourningHouse$Family", "marry", "(IIII)I"⟩ ∈ am_TW := am_tk5 (List.mem_of_getElem? (i := 48) (by decide +kernel)) rfl
theorem wd_1120 : Cond.instanceMethod ⟨"MourningHouse$Family", "marry", "(IIII)I"⟩ ∈ am_TW := am_tk5 (List.mem_of_getElem? (i := 49) (by decide +kernel)) rfl
theorem wd_1121 : Cond.selects "MourningHouse$Family" ⟨"MourningHouse$Family", "marry", "(IIII)I"⟩ ⟨"MourningHouse$Family", "marry", "(IIII)I"⟩ ∈ am_TW := am_tk5 (List.mem_of_getElem? (i := 50) (by decide +kernel)) rfl
theorem wd_1127 : Cond.methodLink "MourningHouse" 200 ⟨"MourningHouse$Decrees", "canOrder", "(II)Z"⟩ ∈ am_TW := am_tk5 (List.mem_of_getElem? (i := 56) (by decide +kernel)) rfl
theorem wd_1128 : Cond.instanceMethod ⟨"MourningHouse$Decrees", "canOrder", "(II)Z"⟩ ∈ am_TW := am_tk5 (List.mem_of_getElem? (i := 57) (by decide +kernel)) rfl
theorem wd_1129 : Cond.selects "MourningHouse$Decrees" ⟨"MourningHouse$Decrees", "canOrder", "(II)Z"⟩ ⟨"MourningHouse$Decrees", "canOrder", "(II)Z"⟩ ∈ am_TW := am_tk5 (List.mem_of_getElem? (i := 58) (by decide +kernel)) rfl
theorem wd_1131 : Cond.methodLink "MourningHouse" 204 ⟨"MourningHouse$Decrees", "order", "(IIII)I"⟩ ∈ am_TW := am_tk5 (List.mem_of_getElem? (i := 60) (by decide +kernel)) rfl
theorem wd_1132 : Cond.instanceMethod ⟨"MourningHouse$Decrees", "order", "(IIII)I"⟩ ∈ am_TW := am_tk5 (List.mem_of_getElem? (i := 61) (by decide +kernel)) rfl
theorem wd_1133 : Cond.selects "MourningHouse$Decrees" ⟨"MourningHouse$Decrees", "order", "(IIII)I"⟩ ⟨"MourningHouse$Decrees", "order", "(IIII)I"⟩ ∈ am_TW := am_tk5 (List.mem_of_getElem? (i := 62) (by decide +kernel)) rfl
theorem wd_1139 : Cond.methodLink "MourningHouse" 210 ⟨"MourningHouse$Family", "gather", "(II)V"⟩ ∈ am_TW := am_tk5 (List.mem_of_getElem? (i := 68) (by decide +kernel)) rfl
theorem wd_1140 : Cond.instanceMethod ⟨"MourningHouse$Family", "gather", "(II)V"⟩ ∈ am_TW := am_tk5 (List.mem_of_getElem? (i := 69) (by decide +kernel)) rfl
theorem wd_1141 : Cond.selects "MourningHouse$Family" ⟨"MourningHouse$Family", "gather", "(II)V"⟩ ⟨"MourningHouse$Family", "gather", "(II)V"⟩ ∈ am_TW := am_tk5 (List.mem_of_getElem? (i := 70) (by decide +kernel)) rfl
theorem wd_1143 : Cond.methodLink "MourningHouse" 214 ⟨"MourningHouse$Family", "isKin", "(LMourningHouse$Law;III)Z"⟩ ∈ am_TW := am_tk5 (List.mem_of_getElem? (i := 72) (by decide +kernel)) rfl
theorem wd_1144 : Cond.instanceMethod ⟨"MourningHouse$Family", "isKin", "(LMourningHouse$Law;III)Z"⟩ ∈ am_TW := am_tk5 (List.mem_of_getElem? (i := 73) (by decide +kernel)) rfl
theorem wd_1145 : Cond.selects "MourningHouse$Family" ⟨"MourningHouse$Family", "isKin", "(LMourningHouse$Law;III)Z"⟩ ⟨"MourningHouse$Family", "isKin", "(LMourningHouse$Law;III)Z"⟩ ∈ am_TW := am_tk5 (List.mem_of_getElem? (i := 74) (by decide +kernel)) rfl
theorem wd_1147 : Cond.constantLong "MourningHouse$Family" 94 (-1) ∈ am_TW := am_tk5 (List.mem_of_getElem? (i := 76) (by decide +kernel)) rfl
theorem wd_1148 : Cond.methodLink "MourningHouse$Family" 96 ⟨"MourningHouse$Law", "kinCount", "(I)I"⟩ ∈ am_TW := am_tk5 (List.mem_of_getElem? (i := 77) (by decide +kernel)) rfl
theorem wd_1149 : Cond.instanceMethod ⟨"MourningHouse$Law", "kinCount", "(I)I"⟩ ∈ am_TW := am_tk5 (List.mem_of_getElem? (i := 78) (by decide +kernel)) rfl
theorem wd_1150 : Cond.selects "MourningHouse$Law" ⟨"MourningHouse$Law", "kinCount", "(I)I"⟩ ⟨"MourningHouse$Law", "kinCount", "(I)I"⟩ ∈ am_TW := am_tk5 (List.mem_of_getElem? (i := 79) (by decide +kernel)) rfl
theorem wd_1152 : Cond.methodLink "MourningHouse$Family" 102 ⟨"MourningHouse$Law", "kinWord", "(II)I"⟩ ∈ am_TW := am_tk5 (List.mem_of_getElem? (i := 81) (by decide +kernel)) rfl
theorem wd_1153 : Cond.methodLink "MourningHouse$Family" 106 ⟨"MourningHouse$Family", "kinOf", "(JI)J"⟩ ∈ am_TW := am_tk5 (List.mem_of_getElem? (i := 82) (by decide +kernel)) rfl
theorem wd_1155 : Cond.instanceMethod ⟨"MourningHouse$Family", "kinOf", "(JI)J"⟩ ∈ am_TW := am_tk5 (List.mem_of_getElem? (i := 84) (by decide +kernel)) rfl
theorem wd_1157 : Cond.methodLink "MourningHouse$Family" 110 ⟨"MourningHouse$Family", "relativesOf", "(II)J"⟩ ∈ am_TW := am_tk5 (List.mem_of_getElem? (i := 86) (by decide +kernel)) rfl
theorem wd_1159 : Cond.instanceMethod ⟨"MourningHouse$Family", "relativesOf", "(II)J"⟩ ∈ am_TW := am_tk5 (List.mem_of_getElem? (i := 88) (by decide +kernel)) rfl
theorem wd_1165 : Cond.methodLink "MourningHouse" 218 ⟨"MourningHouse$Mourner", "ruleFor", "(III)I"⟩ ∈ am_TW := am_tk5 (List.mem_of_getElem? (i := 94) (by decide +kernel)) rfl
theorem wd_1166 : Cond.instanceMethod ⟨"MourningHouse$Mourner", "ruleFor", "(III)I"⟩ ∈ am_TW := am_tk5 (List.mem_of_getElem? (i := 95) (by decide +kernel)) rfl
theorem wd_1167 : Cond.selects "MourningHouse$Mourner" ⟨"MourningHouse$Mourner", "ruleFor", "(III)I"⟩ ⟨"MourningHouse$Mourner", "ruleFor", "(III)I"⟩ ∈ am_TW := am_tk5 (List.mem_of_getElem? (i := 96) (by decide +kernel)) rfl
theorem wd_1169 : Cond.methodLink "MourningHouse$Mourner" 62 ⟨"MourningHouse$Decrees", "lawOn", "(II)LMourningHouse$Law;"⟩ ∈ am_TW := am_tk5 (List.mem_of_getElem? (i := 98) (by decide +kernel)) rfl
theorem wd_1170 : Cond.instanceMethod ⟨"MourningHouse$Decrees", "lawOn", "(II)LMourningHouse$Law;"⟩ ∈ am_TW := am_tk5 (List.mem_of_getElem? (i := 99) (by decide +kernel)) rfl
theorem wd_1171 : Cond.selects "MourningHouse$Decrees" ⟨"MourningHouse$Decrees", "lawOn", "(II)LMourningHouse$Law;"⟩ ⟨"MourningHouse$Decrees", "lawOn", "(II)LMourningHouse$Law;"⟩ ∈ am_TW := am_tk5 (List.mem_of_getElem? (i := 100) (by decide +kernel)) rfl
theorem wd_1173 : Cond.methodLink "MourningHouse$Mourner" 68 ⟨"MourningHouse$Family", "gather", "(II)V"⟩ ∈ am_TW := am_tk5 (List.mem_of_getElem? (i := 102) (by decide +kernel)) rfl
theorem wd_1174 : Cond.methodLink "MourningHouse$Mourner" 77 ⟨"MourningHouse$Law", "kinCount", "(I)I"⟩ ∈ am_TW := am_tk5 (List.mem_of_getElem? (i := 103) (by decide +kernel)) rfl
theorem wd_1175 : Cond.methodLink "MourningHouse$Mourner" 81 ⟨"MourningHouse$Family", "isKin", "(LMourningHouse$Law;III)Z"⟩ ∈ am_TW := am_tk5 (List.mem_of_getElem? (i := 104) (by decide +kernel)) rfl
theorem wd_1180 : Cond.methodLink "MourningHouse" 221 ⟨"MourningHouse$Mourner", "study", "(II)V"⟩ ∈ am_TW := am_tk5 (List.mem_of_getElem? (i := 109) (by decide +kernel)) rfl
theorem wd_1181 : Cond.instanceMethod ⟨"MourningHouse$Mourner", "study", "(II)V"⟩ ∈ am_TW := am_tk5 (List.mem_of_getElem? (i := 110) (by decide +kernel)) rfl
theorem wd_1182 : Cond.selects "MourningHouse$Mourner" ⟨"MourningHouse$Mourner", "study", "(II)V"⟩ ⟨"MourningHouse$Mourner", "study", "(II)V"⟩ ∈ am_TW := am_tk5 (List.mem_of_getElem? (i := 111) (by decide +kernel)) rfl
theorem wd_1184 : Cond.methodLink "MourningHouse$Mourner" 88 ⟨"MourningHouse$Mourner", "ruleFor", "(III)I"⟩ ∈ am_TW := am_tk5 (List.mem_of_getElem? (i := 113) (by decide +kernel)) rfl
theorem wd_1185 : Cond.methodLink "MourningHouse$Mourner" 92 ⟨"MourningHouse$Mourner", "startMourning", "(II)V"⟩ ∈ am_TW := am_tk5 (List.mem_of_getElem? (i := 114) (by decide +kernel)) rfl
theorem wd_1187 : Cond.instanceMethod ⟨"MourningHouse$Mourner", "startMourning", "(II)V"⟩ ∈ am_TW := am_tk5 (List.mem_of_getElem? (i := 116) (by decide +kernel)) rfl
theorem wd_1189 : Cond.methodLink "MourningHouse$Mourner" 99 ⟨"MourningHouse$Law", "hasOption", "(II)Z"⟩ ∈ am_TW := am_tk5 (List.mem_of_getElem? (i := 118) (by decide +kernel)) rfl
theorem wd_1190 : Cond.methodLink "MourningHouse$Mourner" 103 ⟨"MourningHouse$Family", "isMan", "(I)Z"⟩ ∈ am_TW := am_tk5 (List.mem_of_getElem? (i := 119) (by decide +kernel)) rfl
theorem wd_1191 : Cond.methodLink "MourningHouse$Mourner" 110 ⟨"java/lang/Math", "max", "(II)I"⟩ ∈ am_TW := am_tk5 (List.mem_of_getElem? (i := 120) (by decide +kernel)) rfl
theorem wd_1192 : Cond.methodLink "MourningHouse$Mourner" 116 ⟨"MourningHouse$Mourning", "start", "(IILMourningHouse$Law;IZ)V"⟩ ∈ am_TW := am_tk5 (List.mem_of_getElem? (i := 121) (by decide +kernel)) rfl
theorem wd_1193 : Cond.instanceMethod ⟨"MourningHouse$Mourning", "start", "(IILMourningHouse$Law;IZ)V"⟩ ∈ am_TW := am_tk5 (List.mem_of_getElem? (i := 122) (by decide +kernel)) rfl
theorem wd_1194 : Cond.selects "MourningHouse$Mourning" ⟨"MourningHouse$Mourning", "start", "(IILMourningHouse$Law;IZ)V"⟩ ⟨"MourningHouse$Mourning", "start", "(IILMourningHouse$Law;IZ)V"⟩ ∈ am_TW := am_tk5 (List.mem_of_getElem? (i := 123) (by decide +kernel)) rfl
theorem wd_1196 : Cond.methodLink "MourningHouse$Mourning" 49 ⟨"MourningHouse$Law", "hasOption", "(II)Z"⟩ ∈ am_TW := am_tk5 (List.mem_of_getElem? (i := 125) (by decide +kernel)) rfl
theorem wd_1197 : Cond.constant "MourningHouse$Mourning" 53 (2147483647) ∈ am_TW := am_tk5 (List.mem_of_getElem? (i := 126) (by decide +kernel)) rfl
theorem wd_1198 : Cond.methodLink "MourningHouse$Mourning" 54 ⟨"MourningHouse$Law", "partCount", "(I)I"⟩ ∈ am_TW := am_tk5 (List.mem_of_getElem? (i := 127) (by decide +kernel)) rfl
theorem wd_1199 : Cond.instanceMethod ⟨"MourningHouse$Law", "partCount", "(I)I"⟩ ∈ am_TW := am_tk5 (List.mem_of_getElem? (i := 128) (by decide +kernel)) rfl
theorem wd_1200 : Cond.selects "MourningHouse$Law" ⟨"MourningHouse$Law", "partCount", "(I)I"⟩ ⟨"MourningHouse$Law", "partCount", "(I)I"⟩ ∈ am_TW := am_tk5 (List.mem_of_getElem? (i := 129) (by decide +kernel)) rfl
theorem wd_1202 : Cond.methodLink "MourningHouse$Mourning" 58 ⟨"MourningHouse$Law", "endOfPart", "(III)I"⟩ ∈ am_TW := am_tk5 (List.mem_of_getElem? (i := 131) (by decide +kernel)) rfl
theorem wd_1203 : Cond.instanceMethod ⟨"MourningHouse$Law", "endOfPart", "(III)I"⟩ ∈ am_TW := am_tk5 (List.mem_of_getElem? (i := 132) (by decide +kernel)) rfl
theorem wd_1204 : Cond.selects "MourningHouse$Law" ⟨"MourningHouse$Law", "endOfPart", "(III)I"⟩ ⟨"MourningHouse$Law", "endOfPart", "(III)I"⟩ ∈ am_TW := am_tk5 (List.mem_of_getElem? (i := 133) (by decide +kernel)) rfl
theorem wd_1206 : Cond.methodLink "MourningHouse$Law" 67 ⟨"MourningHouse$Calendar", "later", "(II)I"⟩ ∈ am_TW := am_tk5 (List.mem_of_getElem? (i := 135) (by decide +kernel)) rfl
theorem wd_1207 : Cond.methodLink "MourningHouse$Mourning" 62 ⟨"MourningHouse$Law", "partDepth", "(II)I"⟩ ∈ am_TW := am_tk5 (List.mem_of_getElem? (i := 136) (by decide +kernel)) rfl
theorem wd_1208 : Cond.instanceMethod ⟨"MourningHouse$Law", "partDepth", "(II)I"⟩ ∈ am_TW := am_tk5 (List.mem_of_getElem? (i := 137) (by decide +kernel)) rfl
theorem wd_1209 : Cond.selects "MourningHouse$Law" ⟨"MourningHouse$Law", "partDepth", "(II)I"⟩ ⟨"MourningHouse$Law", "partDepth", "(II)I"⟩ ∈ am_TW := am_tk5 (List.mem_of_getElem? (i := 138) (by decide +kernel)) rfl
theorem wd_1211 : Cond.constant "MourningHouse$Mourner" 95 (-36524) ∈ am_TW := am_tk5 (List.mem_of_getElem? (i := 140) (by decide +kernel)) rfl
theorem wd_1212 : Cond.methodLink "MourningHouse$Mourner" 96 ⟨"MourningHouse$Mourner", "lookAhead", "()V"⟩ ∈ am_TW := am_tk5 (List.mem_of_getElem? (i := 141) (by decide +kernel)) rfl
theorem wd_1214 : Cond.instanceMethod ⟨"MourningHouse$Mourner", "lookAhead", "()V"⟩ ∈ am_TW := am_tk5 (List.mem_of_getElem? (i := 143) (by decide +kernel)) rfl
theorem wd_1216 : Cond.methodLink "MourningHouse$Mourner" 125 ⟨"MourningHouse$Mourning", "isOn", "(I)Z"⟩ ∈ am_TW := am_tk5 (List.mem_of_getElem? (i := 145) (by decide +kernel)) rfl
theorem wd_1217 : Cond.instanceMethod ⟨"MourningHouse$Mourning", "isOn", "(I)Z"⟩ ∈ am_TW := am_tk5 (List.mem_of_getElem? (i := 146) (by decide +kernel)) rfl
theorem wd_1218 : Cond.selects "MourningHouse$Mourning" ⟨"MourningHouse$Mourning", "isOn", "(I)Z"⟩ ⟨"MourningHouse$Mourning", "isOn", "(I)Z"⟩ ∈ am_TW := am_tk5 (List.mem_of_getElem? (i := 147) (by decide +kernel)) rfl
theorem wd_1220 : Cond.methodLink "MourningHouse$Mourner" 143 ⟨"MourningHouse$Mourning", "depthNow", "()I"⟩ ∈ am_TW := am_tk5 (List.mem_of_getElem? (i := 149) (by decide +kernel)) rfl
theorem wd_1221 : Cond.instanceMethod ⟨"MourningHouse$Mourning", "depthNow", "()I"⟩ ∈ am_TW := am_tk5 (List.mem_of_getElem? (i := 150) (by decide +kernel)) rfl
theorem wd_1222 : Cond.selects "MourningHouse$Mourning" ⟨"MourningHouse$Mourning", "depthNow", "()I"⟩ ⟨"MourningHouse$Mourning", "depthNow", "()I"⟩ ∈ am_TW := am_tk5 (List.mem_of_getElem? (i := 151) (by decide +kernel)) rfl
theorem wd_1224 : Cond.constant "MourningHouse$Mourner" 154 (73049) ∈ am_TW := am_tk5 (List.mem_of_getElem? (i := 153) (by decide +kernel)) rfl
theorem wd_1225 : Cond.methodLink "MourningHouse$Mourner" 140 ⟨"MourningHouse$Family", "nextWedding", "(III)I"⟩ ∈ am_TW := am_tk5 (List.mem_of_getElem? (i := 154) (by decide +kernel)) rfl
theorem wd_1226 : Cond.instanceMethod ⟨"MourningHouse$Family", "nextWedding", "(III)I"⟩ ∈ am_TW := am_tk5 (List.mem_of_getElem? (i := 155) (by decide +kernel)) rfl
theorem wd_1227 : Cond.selects "MourningHouse$Family" ⟨"MourningHouse$Family", "nextWedding", "(III)I"⟩ ⟨"MourningHouse$Family", "nextWedding", "(III)I"⟩ ∈ am_TW := am_tk5 (List.mem_of_getElem? (i := 156) (by decide +kernel)) rfl
theorem wd_1229 : Cond.methodLink "MourningHouse$Mourner" 155 ⟨"java/lang/Math", "min", "(II)I"⟩ ∈ am_TW := am_tk5 (List.mem_of_getElem? (i := 158) (by decide +kernel)) rfl
theorem wd_1230 : Cond.methodLink "MourningHouse$Mourner" 128 ⟨"MourningHouse$Mourning", "goesOn", "(I)Z"⟩ ∈ am_TW := am_tk5 (List.mem_of_getElem? (i := 159) (by decide +kernel)) rfl
theorem wd_1231 : Cond.instanceMethod ⟨"MourningHouse$Mourning", "goesOn", "(I)Z"⟩ ∈ am_TW := am_tk5 (List.mem_of_getElem? (i := 160) (by decide +kernel)) rfl
theorem wd_1232 : Cond.selects "MourningHouse$Mourning" ⟨"MourningHouse$Mourning", "goesOn", "(I)Z"⟩ ⟨"MourningHouse$Mourning", "goesOn", "(I)Z"⟩ ∈ am_TW := am_tk5 (List.mem_of_getElem? (i := 161) (by decide +kernel)) rfl
theorem wd_1234 : Cond.methodLink "MourningHouse$Mourner" 164 ⟨"MourningHouse$Mourning", "leftInPart", "()I"⟩ ∈ am_TW := am_tk5 (List.mem_of_getElem? (i := 163) (by decide +kernel)) rfl
theorem wd_1235 : Cond.instanceMethod ⟨"MourningHouse$Mourning", "leftInPart", "()I"⟩ ∈ am_TW := am_tk5 (List.mem_of_getElem? (i := 164) (by decide +kernel)) rfl
theorem wd_1236 : Cond.selects "MourningHouse$Mourning" ⟨"MourningHouse$Mourning", "leftInPart", "()I"⟩ ⟨"MourningHouse$Mourning", "leftInPart", "()I"⟩ ∈ am_TW := am_tk5 (List.mem_of_getElem? (i := 165) (by decide +kernel)) rfl
theorem wd_1238 : Cond.methodLink "MourningHouse" 224 ⟨"MourningHouse$Mourner", "depthOn", "(I)I"⟩ ∈ am_TW := am_tk5 (List.mem_of_getElem? (i := 167) (by decide +kernel)) rfl
theorem wd_1239 : Cond.instanceMethod ⟨"MourningHouse$Mourner", "depthOn", "(I)I"⟩ ∈ am_TW := am_tk5 (List.mem_of_getElem? (i := 168) (by decide +kernel)) rfl
theorem wd_1240 : Cond.selects "MourningHouse$Mourner" ⟨"MourningHouse$Mourner", "depthOn", "(I)I"⟩ ⟨"MourningHouse$Mourner", "depthOn", "(I)I"⟩ ∈ am_TW := am_tk5 (List.mem_of_getElem? (i := 169) (by decide +kernel)) rfl
theorem wd_1242 : Cond.methodLink "MourningHouse$Mourner" 167 ⟨"MourningHouse$Mourner", "moveTo", "(I)V"⟩ ∈ am_TW := am_tk5 (List.mem_of_getElem? (i := 171) (by decide +kernel)) rfl
theorem wd_1244 : Cond.instanceMethod ⟨"MourningHouse$Mourner", "moveTo", "(I)V"⟩ ∈ am_TW := am_tk5 (List.mem_of_getElem? (i := 173) (by decide +kernel)) rfl
theorem wd_1246 : Cond.constant "MourningHouse$Mourner" 120 (100000) ∈ am_TW := am_tk5 (List.mem_of_getElem? (i := 175) (by decide +kernel)) rfl
theorem wd_1247 : Cond.methodLink "MourningHouse$Mourner" 121 ⟨"MourningHouse$Mourner", "passDays", "(I)V"⟩ ∈ am_TW := am_tk5 (List.mem_of_getElem? (i := 176) (by decide +kernel)) rfl
theorem wd_1249 : Cond.instanceMethod ⟨"MourningHouse$Mourner", "passDays", "(I)V"⟩ ∈ am_TW := am_tk5 (List.mem_of_getElem? (i := 178) (by decide +kernel)) rfl
theorem wd_1251 : Cond.methodLink "MourningHouse$Mourner" 131 ⟨"MourningHouse$Mourning", "pass", "(II)V"⟩ ∈ am_TW := am_tk5 (List.mem_of_getElem? (i := 180) (by decide +kernel)) rfl
theorem wd_1252 : Cond.instanceMethod ⟨"MourningHouse$Mourning", "pass", "(II)V"⟩ ∈ am_TW := am_tk5 (List.mem_of_getElem? (i := 181) (by decide +kernel)) rfl
theorem wd_1253 : Cond.selects "MourningHouse$Mourning" ⟨"MourningHouse$Mourning", "pass", "(II)V"⟩ ⟨"MourningHouse$Mourning", "pass", "(II)V"⟩ ∈ am_TW := am_tk5 (List.mem_of_getElem? (i := 182) (by decide +kernel)) rfl
theorem wd_1255 : Cond.methodLink "MourningHouse$Mourning" 66 ⟨"MourningHouse$Mourning", "finish", "(I)V"⟩ ∈ am_TW := am_tk5 (List.mem_of_getElem? (i := 184) (by decide +kernel)) rfl
theorem wd_1256 : Cond.instanceMethod ⟨"MourningHouse$Mourning", "finish", "(I)V"⟩ ∈ am_TW := am_tk5 (List.mem_of_getElem? (i := 185) (by decide +kernel)) rfl
theorem wd_1257 : Cond.selects "MourningHouse$Mourning" ⟨"MourningHouse$Mourning", "finish", "(I)V"⟩ ⟨"MourningHouse$Mourning", "finish", "(I)V"⟩ ∈ am_TW := am_tk5 (List.mem_of_getElem? (i := 186) (by decide +kernel)) rfl
theorem wd_1259 : Cond.methodLink "MourningHouse$Mourner" 134 ⟨"MourningHouse$Mourner", "endByWedding", "()V"⟩ ∈ am_TW := am_tk5 (List.mem_of_getElem? (i := 188) (by decide +kernel)) rfl
theorem wd_1261 : Cond.instanceMethod ⟨"MourningHouse$Mourner", "endByWedding", "()V"⟩ ∈ am_TW := am_tk5 (List.mem_of_getElem? (i := 190) (by decide +kernel)) rfl
theorem wd_1263 : Cond.methodLink "MourningHouse$Mourner" 147 ⟨"MourningHouse$Mourning", "finish", "(I)V"⟩ ∈ am_TW := am_tk5 (List.mem_of_getElem? (i := 192) (by decide +kernel)) rfl
theorem wd_1264 : Cond.methodLink "MourningHouse$Mourner" 170 ⟨"MourningHouse$Mourner", "lightened", "(LMourningHouse$Law;I)I"⟩ ∈ am_TW := am_tk5 (List.mem_of_getElem? (i := 193) (by decide +kernel)) rfl
theorem wd_1266 : Cond.instanceMethod ⟨"MourningHouse$Mourner", "lightened", "(LMourningHouse$Law;I)I"⟩ ∈ am_TW := am_tk5 (List.mem_of_getElem? (i := 195) (by decide +kernel)) rfl
theorem wd_1268 : Cond.methodLink "MourningHouse$Mourner" 184 ⟨"MourningHouse$Calendar", "dateOf", "(I)I"⟩ ∈ am_TW := am_tk5 (List.mem_of_getElem? (i := 197) (by decide +kernel)) rfl
theorem wd_1269 : Cond.methodLink "MourningHouse$Mourner" 187 ⟨"MourningHouse$Law", "onFeasts", "(II)I"⟩ ∈ am_TW := am_tk5 (List.mem_of_getElem? (i := 198) (by decide +kernel)) rfl
theorem wd_1270 : Cond.instanceMethod ⟨"MourningHouse$Law", "onFeasts", "(II)I"⟩ ∈ am_TW := am_tk5 (List.mem_of_getElem? (i := 199) (by decide +kernel)) rfl
theorem wd_1271 : Cond.selects "MourningHouse$Law" ⟨"MourningHouse$Law", "onFeasts", "(II)I"⟩ ⟨"MourningHouse$Law", "onFeasts", "(II)I"⟩ ∈ am_TW := am_tk5 (List.mem_of_getElem? (i := 200) (by decide +kernel)) rfl
theorem wd_1273 : Cond.methodLink "MourningHouse$Law" 73 ⟨"java/lang/Math", "min", "(II)I"⟩ ∈ am_TW := am_tk5 (List.mem_of_getElem? (i := 202) (by decide +kernel)) rfl
theorem wd_1274 : Cond.methodLink "MourningHouse$Mourner" 196 ⟨"MourningHouse$Family", "hasChildBorn", "(IIII)Z"⟩ ∈ am_TW := am_tk5 (List.mem_of_getElem? (i := 203) (by decide +kernel)) rfl
theorem wd_1275 : Cond.instanceMethod ⟨"MourningHouse$Family", "hasChildBorn", "(IIII)Z"⟩ ∈ am_TW := am_tk5 (List.mem_of_getElem? (i := 204) (by decide +kernel)) rfl
theorem wd_1276 : Cond.selects "MourningHouse$Family" ⟨"MourningHouse$Family", "hasChildBorn", "(IIII)Z"⟩ ⟨"MourningHouse$Family", "hasChildBorn", "(IIII)Z"⟩ ∈ am_TW := am_tk5 (List.mem_of_getElem? (i := 205) (by decide +kernel)) rfl
theorem wd_1278 : Cond.methodLink "MourningHouse$Mourner" 174 ⟨"MourningHouse$Decrees", "orderedDepth", "(II)I"⟩ ∈ am_TW := am_tk5 (List.mem_of_getElem? (i := 207) (by decide +kernel)) rfl
theorem wd_1279 : Cond.instanceMethod ⟨"MourningHouse$Decrees", "orderedDepth", "(II)I"⟩ ∈ am_TW := am_tk5 (List.mem_of_getElem? (i := 208) (by decide +kernel)) rfl
theorem wd_1280 : Cond.selects "MourningHouse$Decrees" ⟨"MourningHouse$Decrees", "orderedDepth", "(II)I"⟩ ⟨"MourningHouse$Decrees", "orderedDepth", "(II)I"⟩ ∈ am_TW := am_tk5 (List.mem_of_getElem? (i := 209) (by decide +kernel)) rfl
theorem wd_1282 : Cond.methodLink "MourningHouse$Decrees" 41 ⟨"java/lang/Math", "max", "(II)I"⟩ ∈ am_TW := am_tk5 (List.mem_of_getElem? (i := 211) (by decide +kernel)) rfl
theorem wd_1283 : Cond.methodLink "MourningHouse$Mourner" 177 ⟨"MourningHouse$Mourner", "isTooYoung", "(LMourningHouse$Law;I)Z"⟩ ∈ am_TW := am_tk5 (List.mem_of_getElem? (i := 212) (by decide +kernel)) rfl
theorem wd_1285 : Cond.instanceMethod ⟨"MourningHouse$Mourner", "isTooYoung", "(LMourningHouse$Law;I)Z"⟩ ∈ am_TW := am_tk5 (List.mem_of_getElem? (i := 214) (by decide +kernel)) rfl
theorem wd_1287 : Cond.methodLink "MourningHouse$Mourner" 203 ⟨"MourningHouse$Calendar", "later", "(II)I"⟩ ∈ am_TW := am_tk5 (List.mem_of_getElem? (i := 216) (by decide +kernel)) rfl
theorem wd_1292 : Cond.methodLink "MourningHouse" 227 ⟨"MourningHouse$Mourner", "lastDayFor", "(I)I"⟩ ∈ am_TW := am_tk5 (List.mem_of_getElem? (i := 221) (by decide +kernel)) rfl
theorem wd_1293 : Cond.instanceMethod ⟨"MourningHouse$Mourner", "lastDayFor", "(I)I"⟩ ∈ am_TW := am_tk5 (List.mem_of_getElem? (i := 222) (by decide +kernel)) rfl
theorem wd_1294 : Cond.selects "MourningHouse$Mourner" ⟨"MourningHouse$Mourner", "lastDayFor", "(I)I"⟩ ⟨"MourningHouse$Mourner", "lastDayFor", "(I)I"⟩ ∈ am_TW := am_tk5 (List.mem_of_getElem? (i := 223) (by decide +kernel)) rfl
theorem wd_1296 : Cond.constant "MourningHouse$Mourner" 212 (73048) ∈ am_TW := am_tk5 (List.mem_of_getElem? (i := 225) (by decide +kernel)) rfl
theorem wd_1297 : Cond.constant "MourningHouse$Mourner" 219 (-2147483648) ∈ am_TW := am_tk5 (List.mem_of_getElem? (i := 226) (by decide +kernel)) rfl
theorem wd_1302 : Cond.methodLink "MourningHouse" 230 ⟨"MourningHouse$Mourner", "edgeOn", "(I)I"⟩ ∈ am_TW := am_tk5 (List.mem_of_getElem? (i := 231) (by decide +kernel)) rfl
theorem wd_1303 : Cond.instanceMethod ⟨"MourningHouse$Mourner", "edgeOn", "(I)I"⟩ ∈ am_TW := am_tk5 (List.mem_of_getElem? (i := 232) (by decide +kernel)) rfl
theorem wd_1304 : Cond.selects "MourningHouse$Mourner" ⟨"MourningHouse$Mourner", "edgeOn", "(I)I"⟩ ⟨"MourningHouse$Mourner", "edgeOn", "(I)I"⟩ ∈ am_TW := am_tk5 (List.mem_of_getElem? (i := 233) (by decide +kernel)) rfl
theorem wd_1306 : Cond.methodLink "MourningHouse$Mourner" 206 ⟨"MourningHouse$Mourner", "depthOn", "(I)I"⟩ ∈ am_TW := am_tk5 (List.mem_of_getElem? (i := 235) (by decide +kernel)) rfl
theorem wd_1311 : Cond.methodLink "MourningHouse" 233 ⟨"MourningHouse", "isAct", "(I)Z"⟩ ∈ am_TW := am_tk6 (List.mem_of_getElem? (i := 0) (by decide +kernel)) rfl
theorem wd_1312 : Cond.static ⟨"MourningHouse", "isAct", "(I)Z"⟩ ∈ am_TW := am_tk6 (List.mem_of_getElem? (i := 1) (by decide +kernel)) rfl
theorem wd_1314 : Cond.methodLink "MourningHouse" 236 ⟨"MourningHouse$Mourner", "isAllowed", "(II)Z"⟩ ∈ am_TW := am_tk6 (List.mem_of_getElem? (i := 3) (by decide +kernel)) rfl
theorem wd_1315 : Cond.instanceMethod ⟨"MourningHouse$Mourner", "isAllowed", "(II)Z"⟩ ∈ am_TW := am_tk6 (List.mem_of_getElem? (i := 4) (by decide +kernel)) rfl
theorem wd_1316 : Cond.selects "MourningHouse$Mourner" ⟨"MourningHouse$Mourner", "isAllowed", "(II)Z"⟩ ⟨"MourningHouse$Mourner", "isAllowed", "(II)Z"⟩ ∈ am_TW := am_tk6 (List.mem_of_getElem? (i := 5) (by decide +kernel)) rfl
theorem wd_1326 : Cond.methodLink "MourningHouse" 239 ⟨"MourningHouse", "standing", "(I)I"⟩ ∈ am_TW := am_tk6 (List.mem_of_getElem? (i := 15) (by decide +kernel)) rfl
theorem wd_1328 : Cond.instanceMethod ⟨"MourningHouse", "standing", "(I)I"⟩ ∈ am_TW := am_tk6 (List.mem_of_getElem? (i := 17) (by decide +kernel)) rfl
theorem wd_1334 : Cond.methodLink "MourningHouse" 242 ⟨"MourningHouse", "isChoice", "(II)Z"⟩ ∈ am_TW := am_tk6 (List.mem_of_getElem? (i := 23) (by decide +kernel)) rfl
theorem wd_1335 : Cond.static ⟨"MourningHouse", "isChoice", "(II)Z"⟩ ∈ am_TW := am_tk6 (List.mem_of_getElem? (i := 24) (by decide +kernel)) rfl
theorem wd_1337 : Cond.methodLink "MourningHouse" 245 ⟨"MourningHouse", "countAllowed", "(III)V"⟩ ∈ am_TW := am_tk6 (List.mem_of_getElem? (i := 26) (by decide +kernel)) rfl
theorem wd_1339 : Cond.instanceMethod ⟨"MourningHouse", "countAllowed", "(III)V"⟩ ∈ am_TW := am_tk6 (List.mem_of_getElem? (i := 28) (by decide +kernel)) rfl
theorem wd_1349 : Cond.methodLink "MourningHouse" 248 ⟨"MourningHouse$Wardrobe", "canHang", "(II)Z"⟩ ∈ am_TW := am_tk6 (List.mem_of_getElem? (i := 38) (by decide +kernel)) rfl
theorem wd_1350 : Cond.instanceMethod ⟨"MourningHouse$Wardrobe", "canHang", "(II)Z"⟩ ∈ am_TW := am_tk6 (List.mem_of_getElem? (i := 39) (by decide +kernel)) rfl
theorem wd_1351 : Cond.selects "MourningHouse$Wardrobe" ⟨"MourningHouse$Wardrobe", "canHang", "(II)Z"⟩ ⟨"MourningHouse$Wardrobe", "canHang", "(II)Z"⟩ ∈ am_TW := am_tk6 (List.mem_of_getElem? (i := 40) (by decide +kernel)) rfl
theorem wd_1353 : Cond.methodLink "MourningHouse$Wardrobe" 50 ⟨"MourningHouse$Wardrobe", "canBe", "(II)Z"⟩ ∈ am_TW := am_tk6 (List.mem_of_getElem? (i := 42) (by decide +kernel)) rfl
theorem wd_1354 : Cond.static ⟨"MourningHouse$Wardrobe", "canBe", "(II)Z"⟩ ∈ am_TW := am_tk6 (List.mem_of_getElem? (i := 43) (by decide +kernel)) rfl
theorem wd_1356 : Cond.methodLink "MourningHouse" 251 ⟨"MourningHouse$Wardrobe", "hang", "(II)I"⟩ ∈ am_TW := am_tk6 (List.mem_of_getElem? (i := 45) (by decide +kernel)) rfl
theorem wd_1361 : Cond.methodLink "MourningHouse" 254 ⟨"MourningHouse$Wardrobe", "canStore", "(II)Z"⟩ ∈ am_TW := am_tk6 (List.mem_of_getElem? (i := 50) (by decide +kernel)) rfl
theorem wd_1362 : Cond.instanceMethod ⟨"MourningHouse$Wardrobe", "canStore", "(II)Z"⟩ ∈ am_TW := am_tk6 (List.mem_of_getElem? (i := 51) (by decide +kernel)) rfl
theorem wd_1363 : Cond.selects "MourningHouse$Wardrobe" ⟨"MourningHouse$Wardrobe", "canStore", "(II)Z"⟩ ⟨"MourningHouse$Wardrobe", "canStore", "(II)Z"⟩ ∈ am_TW := am_tk6 (List.mem_of_getElem? (i := 52) (by decide +kernel)) rfl
theorem wd_1365 : Cond.methodLink "MourningHouse" 257 ⟨"MourningHouse$Wardrobe", "store", "(II)I"⟩ ∈ am_TW := am_tk6 (List.mem_of_getElem? (i := 54) (by decide +kernel)) rfl
theorem wd_1366 : Cond.instanceMethod ⟨"MourningHouse$Wardrobe", "store", "(II)I"⟩ ∈ am_TW := am_tk6 (List.mem_of_getElem? (i := 55) (by decide +kernel)) rfl
theorem wd_1367 : Cond.selects "MourningHouse$Wardrobe" ⟨"MourningHouse$Wardrobe", "store", "(II)I"⟩ ⟨"MourningHouse$Wardrobe", "store", "(II)I"⟩ ∈ am_TW := am_tk6 (List.mem_of_getElem? (i := 56) (by decide +kernel)) rfl
theorem wd_1377 : Cond.methodLink "MourningHouse" 263 ⟨"MourningHouse$Wardrobe", "canDye", "(II)Z"⟩ ∈ am_TW := am_tk6 (List.mem_of_getElem? (i := 66) (by decide +kernel)) rfl
theorem wd_1378 : Cond.instanceMethod ⟨"MourningHouse$Wardrobe", "canDye", "(II)Z"⟩ ∈ am_TW := am_tk6 (List.mem_of_getElem? (i := 67) (by decide +kernel)) rfl
theorem wd_1379 : Cond.selects "MourningHouse$Wardrobe" ⟨"MourningHouse$Wardrobe", "canDye", "(II)Z"⟩ ⟨"MourningHouse$Wardrobe", "canDye", "(II)Z"⟩ ∈ am_TW := am_tk6 (List.mem_of_getElem? (i := 68) (by decide +kernel)) rfl
theorem wd_1381 : Cond.methodLink "MourningHouse" 266 ⟨"MourningHouse$Wardrobe", "startDye", "(II)I"⟩ ∈ am_TW := am_tk6 (List.mem_of_getElem? (i := 70) (by decide +kernel)) rfl
theorem wd_1382 : Cond.instanceMethod ⟨"MourningHouse$Wardrobe", "startDye", "(II)I"⟩ ∈ am_TW := am_tk6 (List.mem_of_getElem? (i := 71) (by decide +kernel)) rfl
theorem wd_1383 : Cond.selects "MourningHouse$Wardrobe" ⟨"MourningHouse$Wardrobe", "startDye", "(II)I"⟩ ⟨"MourningHouse$Wardrobe", "startDye", "(II)I"⟩ ∈ am_TW := am_tk6 (List.mem_of_getElem? (i := 72) (by decide +kernel)) rfl
theorem wd_1385 : Cond.methodLink "MourningHouse$Wardrobe" 58 ⟨"MourningHouse$Wardrobe", "addTask", "(IIII)V"⟩ ∈ am_TW := am_tk6 (List.mem_of_getElem? (i := 74) (by decide +kernel)) rfl
theorem wd_1387 : Cond.instanceMethod ⟨"MourningHouse$Wardrobe", "addTask", "(IIII)V"⟩ ∈ am_TW := am_tk6 (List.mem_of_getElem? (i := 76) (by decide +kernel)) rfl
theorem wd_1393 : Cond.methodLink "MourningHouse" 269 ⟨"MourningHouse$Wardrobe", "canMake", "(II)Z"⟩ ∈ am_TW := am_tk6 (List.mem_of_getElem? (i := 82) (by decide +kernel)) rfl
theorem wd_1394 : Cond.instanceMethod ⟨"MourningHouse$Wardrobe", "canMake", "(II)Z"⟩ ∈ am_TW := am_tk6 (List.mem_of_getElem? (i := 83) (by decide +kernel)) rfl
theorem wd_1395 : Cond.selects "MourningHouse$Wardrobe" ⟨"MourningHouse$Wardrobe", "canMake", "(II)Z"⟩ ⟨"MourningHouse$Wardrobe", "canMake", "(II)Z"⟩ ∈ am_TW := am_tk6 (List.mem_of_getElem? (i := 84) (by decide +kernel)) rfl
theorem wd_1397 : Cond.methodLink "MourningHouse$Wardrobe" 62 ⟨"MourningHouse$Wardrobe", "canHang", "(II)Z"⟩ ∈ am_TW := am_tk6 (List.mem_of_getElem? (i := 86) (by decide +kernel)) rfl
theorem wd_1398 : Cond.methodLink "MourningHouse" 272 ⟨"MourningHouse$Wardrobe", "startMake", "(II)I"⟩ ∈ am_TW := am_tk6 (List.mem_of_getElem? (i := 87) (by decide +kernel)) rfl
theorem wd_1399 : Cond.instanceMethod ⟨"MourningHouse$Wardrobe", "startMake", "(II)I"⟩ ∈ am_TW := am_tk6 (List.mem_of_getElem? (i := 88) (by decide +kernel)) rfl
theorem wd_1400 : Cond.selects "MourningHouse$Wardrobe" ⟨"MourningHouse$Wardrobe", "startMake", "(II)I"⟩ ⟨"MourningHouse$Wardrobe", "startMake", "(II)I"⟩ ∈ am_TW := am_tk6 (List.mem_of_getElem? (i := 89) (by decide +kernel)) rfl
theorem wd_1406 : Cond.methodLink "MourningHouse" 275 ⟨"MourningHouse", "isPlanned", "(III)Z"⟩ ∈ am_TW := am_tk6 (List.mem_of_getElem? (i := 95) (by decide +kernel)) rfl
theorem wd_1408 : Cond.instanceMethod ⟨"MourningHouse", "isPlanned", "(III)Z"⟩ ∈ am_TW := am_tk6 (List.mem_of_getElem? (i := 97) (by decide +kernel)) rfl
theorem wd_1410 : Cond.methodLink "MourningHouse" 316 ⟨"java/lang/Integer", "bitCount", "(I)I"⟩ ∈ am_TW := am_tk6 (List.mem_of_getElem? (i := 99) (by decide +kernel)) rfl
theorem wd_1411 : Cond.static ⟨"java/lang/Integer", "bitCount", "(I)I"⟩ ∈ am_TW := am_tk6 (List.mem_of_getElem? (i := 100) (by decide +kernel)) rfl
theorem wd_1416 : Cond.methodLink "MourningHouse" 321 ⟨"MourningHouse$Family", "areAlive", "(I)Z"⟩ ∈ am_TW := am_tk6 (List.mem_of_getElem? (i := 105) (by decide +kernel)) rfl
theorem wd_1417 : Cond.instanceMethod ⟨"MourningHouse$Family", "areAlive", "(I)Z"⟩ ∈ am_TW := am_tk6 (List.mem_of_getElem? (i := 106) (by decide +kernel)) rfl
theorem wd_1418 : Cond.selects "MourningHouse$Family" ⟨"MourningHouse$Family", "areAlive", "(I)Z"⟩ ⟨"MourningHouse$Family", "areAlive", "(I)Z"⟩ ∈ am_TW := am_tk6 (List.mem_of_getElem? (i := 107) (by decide +kernel)) rfl
theorem wd_1420 : Cond.methodLink "MourningHouse$Family" 91 ⟨"MourningHouse$Family", "isToldDead", "(I)Z"⟩ ∈ am_TW := am_tk6 (List.mem_of_getElem? (i := 109) (by decide +kernel)) rfl
theorem wd_1421 : Cond.methodLink "MourningHouse" 324 ⟨"MourningHouse$Planner", "open", "(I)V"⟩ ∈ am_TW := am_tk6 (List.mem_of_getElem? (i := 110) (by decide +kernel)) rfl
theorem wd_1422 : Cond.instanceMethod ⟨"MourningHouse$Planner", "open", "(I)V"⟩ ∈ am_TW := am_tk6 (List.mem_of_getElem? (i := 111) (by decide +kernel)) rfl
theorem wd_1423 : Cond.selects "MourningHouse$Planner" ⟨"MourningHouse$Planner", "open", "(I)V"⟩ ⟨"MourningHouse$Planner", "open", "(I)V"⟩ ∈ am_TW := am_tk6 (List.mem_of_getElem? (i := 112) (by decide +kernel)) rfl
theorem wd_1425 : Cond.methodLink "MourningHouse" 328 ⟨"MourningHouse$Planner", "add", "(II)V"⟩ ∈ am_TW := am_tk6 (List.mem_of_getElem? (i := 114) (by decide +kernel)) rfl
theorem wd_1426 : Cond.instanceMethod ⟨"MourningHouse$Planner", "add", "(II)V"⟩ ∈ am_TW := am_tk6 (List.mem_of_getElem? (i := 115) (by decide +kernel)) rfl
theorem wd_1427 : Cond.selects "MourningHouse$Planner" ⟨"MourningHouse$Planner", "add", "(II)V"⟩ ⟨"MourningHouse$Planner", "add", "(II)V"⟩ ∈ am_TW := am_tk6 (List.mem_of_getElem? (i := 116) (by decide +kernel)) rfl
theorem wd_1429 : Cond.methodLink "MourningHouse" 330 ⟨"MourningHouse$Planner", "solve", "()V"⟩ ∈ am_TW := am_tk6 (List.mem_of_getElem? (i := 118) (by decide +kernel)) rfl
theorem wd_1430 : Cond.instanceMethod ⟨"MourningHouse$Planner", "solve", "()V"⟩ ∈ am_TW := am_tk6 (List.mem_of_getElem? (i := 119) (by decide +kernel)) rfl
theorem wd_1431 : Cond.selects "MourningHouse$Planner" ⟨"MourningHouse$Planner", "solve", "()V"⟩ ⟨"MourningHouse$Planner", "solve", "()V"⟩ ∈ am_TW := am_tk6 (List.mem_of_getElem? (i := 120) (by decide +kernel)) rfl
theorem wd_1433 : Cond.constant "MourningHouse$Planner" 56 (2147483647) ∈ am_TW := am_tk6 (List.mem_of_getElem? (i := 122) (by decide +kernel)) rfl
theorem wd_1434 : Cond.methodLink "MourningHouse$Planner" 57 ⟨"MourningHouse$Planner", "takeHands", "()V"⟩ ∈ am_TW := am_tk6 (List.mem_of_getElem? (i := 123) (by decide +kernel)) rfl
theorem wd_1436 : Cond.instanceMethod ⟨"MourningHouse$Planner", "takeHands", "()V"⟩ ∈ am_TW := am_tk6 (List.mem_of_getElem? (i := 125) (by decide +kernel)) rfl
theorem wd_1438 : Cond.methodLink "MourningHouse$Planner" 70 ⟨"MourningHouse$Planner", "freeHand", "(I)I"⟩ ∈ am_TW := am_tk6 (List.mem_of_getElem? (i := 127) (by decide +kernel)) rfl
theorem wd_1440 : Cond.instanceMethod ⟨"MourningHouse$Planner", "freeHand", "(I)I"⟩ ∈ am_TW := am_tk6 (List.mem_of_getElem? (i := 129) (by decide +kernel)) rfl
theorem wd_1442 : Cond.methodLink "MourningHouse$Planner" 60 ⟨"MourningHouse$Planner", "choose", "(II)V"⟩ ∈ am_TW := am_tk6 (List.mem_of_getElem? (i := 131) (by decide +kernel)) rfl
theorem wd_1444 : Cond.instanceMethod ⟨"MourningHouse$Planner", "choose", "(II)V"⟩ ∈ am_TW := am_tk6 (List.mem_of_getElem? (i := 133) (by decide +kernel)) rfl
theorem wd_1446 : Cond.methodLink "MourningHouse$Planner" 77 ⟨"MourningHouse$Planner", "keep", "(I)V"⟩ ∈ am_TW := am_tk6 (List.mem_of_getElem? (i := 135) (by decide +kernel)) rfl
theorem wd_1448 : Cond.instanceMethod ⟨"MourningHouse$Planner", "keep", "(I)V"⟩ ∈ am_TW := am_tk6 (List.mem_of_getElem? (i := 137) (by decide +kernel)) rfl
theorem wd_1450 : Cond.methodLink "MourningHouse$Planner" 81 ⟨"MourningHouse$Planner", "pick", "(IIII)V"⟩ ∈ am_TW := am_tk6 (List.mem_of_getElem? (i := 139) (by decide +kernel)) rfl
theorem wd_1452 : Cond.instanceMethod ⟨"MourningHouse$Planner", "pick", "(IIII)V"⟩ ∈ am_TW := am_tk6 (List.mem_of_getElem? (i := 141) (by decide +kernel)) rfl
theorem wd_1454 : Cond.methodLink "MourningHouse$Planner" 101 ⟨"MourningHouse$Planner", "isInTime", "(II)Z"⟩ ∈ am_TW := am_tk6 (List.mem_of_getElem? (i := 143) (by decide +kernel)) rfl
theorem wd_1456 : Cond.instanceMethod ⟨"MourningHouse$Planner", "isInTime", "(II)Z"⟩ ∈ am_TW := am_tk6 (List.mem_of_getElem? (i := 145) (by decide +kernel)) rfl
theorem wd_1458 : Cond.methodLink "MourningHouse$Planner" 85 ⟨"MourningHouse$Planner", "wear", "(II)V"⟩ ∈ am_TW := am_tk6 (List.mem_of_getElem? (i := 147) (by decide +kernel)) rfl
theorem wd_1460 : Cond.instanceMethod ⟨"MourningHouse$Planner", "wear", "(II)V"⟩ ∈ am_TW := am_tk6 (List.mem_of_getElem? (i := 149) (by decide +kernel)) rfl
theorem wd_1462 : Cond.methodLink "MourningHouse$Planner" 94 ⟨"MourningHouse$Wardrobe", "leastDress", "(IIJ)I"⟩ ∈ am_TW := am_tk6 (List.mem_of_getElem? (i := 151) (by decide +kernel)) rfl
theorem wd_1463 : Cond.instanceMethod ⟨"MourningHouse$Wardrobe", "leastDress", "(IIJ)I"⟩ ∈ am_TW := am_tk6 (List.mem_of_getElem? (i := 152) (by decide +kernel)) rfl
theorem wd_1464 : Cond.selects "MourningHouse$Wardrobe" ⟨"MourningHouse$Wardrobe", "leastDress", "(IIJ)I"⟩ ⟨"MourningHouse$Wardrobe", "leastDress", "(IIJ)I"⟩ ∈ am_TW := am_tk6 (List.mem_of_getElem? (i := 153) (by decide +kernel)) rfl
theorem wd_1466 : Cond.methodLink "MourningHouse$Planner" 88 ⟨"MourningHouse$Planner", "dyeDarker", "(II)V"⟩ ∈ am_TW := am_tk6 (List.mem_of_getElem? (i := 155) (by decide +kernel)) rfl
theorem wd_1468 : Cond.instanceMethod ⟨"MourningHouse$Planner", "dyeDarker", "(II)V"⟩ ∈ am_TW := am_tk6 (List.mem_of_getElem? (i := 157) (by decide +kernel)) rfl
theorem wd_1470 : Cond.methodLink "MourningHouse$Planner" 91 ⟨"MourningHouse$Planner", "sew", "(II)V"⟩ ∈ am_TW := am_tk6 (List.mem_of_getElem? (i := 159) (by decide +kernel)) rfl
theorem wd_1472 : Cond.instanceMethod ⟨"MourningHouse$Planner", "sew", "(II)V"⟩ ∈ am_TW := am_tk6 (List.mem_of_getElem? (i := 161) (by decide +kernel)) rfl
theorem wd_1474 : Cond.methodLink "MourningHouse" 278 ⟨"MourningHouse$Planner", "wayOf", "(I)I"⟩ ∈ am_TW := am_tk6 (List.mem_of_getElem? (i := 163) (by decide +kernel)) rfl
theorem wd_1475 : Cond.instanceMethod ⟨"MourningHouse$Planner", "wayOf", "(I)I"⟩ ∈ am_TW := am_tk6 (List.mem_of_getElem? (i := 164) (by decide +kernel)) rfl
theorem wd_1476 : Cond.selects "MourningHouse$Planner" ⟨"MourningHouse$Planner", "wayOf", "(I)I"⟩ ⟨"MourningHouse$Planner", "wayOf", "(I)I"⟩ ∈ am_TW := am_tk6 (List.mem_of_getElem? (i := 165) (by decide +kernel)) rfl
theorem wd_1482 : Cond.methodLink "MourningHouse" 281 ⟨"MourningHouse$Planner", "dressOf", "(I)I"⟩ ∈ am_TW := am_tk6 (List.mem_of_getElem? (i := 171) (by decide +kernel)) rfl
theorem wd_1483 : Cond.instanceMethod ⟨"MourningHouse$Planner", "dressOf", "(I)I"⟩ ∈ am_TW := am_tk6 (List.mem_of_getElem? (i := 172) (by decide +kernel)) rfl
theorem wd_1484 : Cond.selects "MourningHouse$Planner" ⟨"MourningHouse$Planner", "dressOf", "(I)I"⟩ ⟨"MourningHouse$Planner", "dressOf", "(I)I"⟩ ∈ am_TW := am_tk6 (List.mem_of_getElem? (i := 173) (by decide +kernel)) rfl
theorem wd_1490 : Cond.methodLink "MourningHouse" 284 ⟨"MourningHouse$Wardrobe", "has", "(I)Z"⟩ ∈ am_TW := am_tk6 (List.mem_of_getElem? (i := 179) (by decide +kernel)) rfl
theorem wd_1495 : Cond.methodLink "MourningHouse" 295 ⟨"MourningHouse$Family", "factOf", "(II)I"⟩ ∈ am_TW := am_tk6 (List.mem_of_getElem? (i := 184) (by decide +kernel)) rfl
theorem wd_1496 : Cond.instanceMethod ⟨"MourningHouse$Family", "factOf", "(II)I"⟩ ∈ am_TW := am_tk6 (List.mem_of_getElem? (i := 185) (by decide +kernel)) rfl
theorem wd_1497 : Cond.selects "MourningHouse$Family" ⟨"MourningHouse$Family", "factOf", "(II)I"⟩ ⟨"MourningHouse$Family", "factOf", "(II)I"⟩ ∈ am_TW := am_tk6 (List.mem_of_getElem? (i := 186) (by decide +kernel)) rfl
theorem wd_1499 : Cond.constant "MourningHouse$Family" 114 (-2147483648) ∈ am_TW := am_tk6 (List.mem_of_getElem? (i := 188) (by decide +kernel)) rfl
theorem wd_1504 : Cond.methodLink "MourningHouse" 313 ⟨"MourningHouse$Wardrobe", "clothsOf", "(I)I"⟩ ∈ am_TW := am_tk6 (List.mem_of_getElem? (i := 193) (by decide +kernel)) rfl
theorem wd_1505 : Cond.instanceMethod ⟨"MourningHouse$Wardrobe", "clothsOf", "(I)I"⟩ ∈ am_TW := am_tk6 (List.mem_of_getElem? (i := 194) (by decide +kernel)) rfl
theorem wd_1506 : Cond.selects "MourningHouse$Wardrobe" ⟨"MourningHouse$Wardrobe", "clothsOf", "(I)I"⟩ ⟨"MourningHouse$Wardrobe", "clothsOf", "(I)I"⟩ ∈ am_TW := am_tk6 (List.mem_of_getElem? (i := 195) (by decide +kernel)) rfl
theorem wd_1549 : Cond.fieldLink "MourningHouseModel" 9 "MourningHouseModel" "text" "[B" ∈ am_TW := am_tk6 (List.mem_of_getElem? (i := 238) (by decide +kernel)) rfl
theorem wd_1550 : Cond.fieldLink "MourningHouseModel" 329 "MourningHouseModel" "textMany" "I" ∈ am_TW := am_tk6 (List.mem_of_getElem? (i := 239) (by decide +kernel)) rfl
theorem wd_1551 : Cond.fieldLink "MourningHouseModel" 343 "MourningHouseModel" "faultLine" "I" ∈ am_TW := am_tk7 (List.mem_of_getElem? (i := 0) (by decide +kernel)) rfl
theorem wd_1552 : Cond.fieldLink "MourningHouseModel" 346 "MourningHouseModel" "faultToken" "I" ∈ am_TW := am_tk7 (List.mem_of_getElem? (i := 1) (by decide +kernel)) rfl
theorem wd_1553 : Cond.fieldLink "MourningHouseModel" 337 "MourningHouseModel" "faultKind" "I" ∈ am_TW := am_tk7 (List.mem_of_getElem? (i := 2) (by decide +kernel)) rfl
theorem wd_1554 : Cond.fieldLink "MourningHouseModel" 13 "MourningHouseModel" "lawDay" "[I" ∈ am_TW := am_tk7 (List.mem_of_getElem? (i := 3) (by decide +kernel)) rfl
theorem wd_1555 : Cond.fieldLink "MourningHouseModel" 17 "MourningHouseModel" "ruleMany" "[I" ∈ am_TW := am_tk7 (List.mem_of_getElem? (i := 4) (by decide +kernel)) rfl
theorem wd_1556 : Cond.fieldLink "MourningHouseModel" 20 "MourningHouseModel" "feastMany" "[I" ∈ am_TW := am_tk7 (List.mem_of_getElem? (i := 5) (by decide +kernel)) rfl
theorem wd_1557 : Cond.fieldLink "MourningHouseModel" 25 "MourningHouseModel" "wordMany" "[[I" ∈ am_TW := am_tk7 (List.mem_of_getElem? (i := 6) (by decide +kernel)) rfl
theorem wd_1558 : Cond.fieldLink "MourningHouseModel" 28 "MourningHouseModel" "stageMany" "[[I" ∈ am_TW := am_tk7 (List.mem_of_getElem? (i := 7) (by decide +kernel)) rfl
theorem wd_1559 : Cond.fieldLink "MourningHouseModel" 31 "MourningHouseModel" "flags" "[[I" ∈ am_TW := am_tk7 (List.mem_of_getElem? (i := 8) (by decide +kernel)) rfl
theorem wd_1560 : Cond.fieldLink "MourningHouseModel" 36 "MourningHouseModel" "words" "[[[I" ∈ am_TW := am_tk7 (List.mem_of_getElem? (i := 9) (by decide +kernel)) rfl
theorem wd_1561 : Cond.fieldLink "MourningHouseModel" 39 "MourningHouseModel" "stages" "[[[I" ∈ am_TW := am_tk7 (List.mem_of_getElem? (i := 10) (by decide +kernel)) rfl
theorem wd_1562 : Cond.fieldLink "MourningHouseModel" 42 "MourningHouseModel" "may" "[[I" ∈ am_TW := am_tk7 (List.mem_of_getElem? (i := 11) (by decide +kernel)) rfl
theorem wd_1563 : Cond.fieldLink "MourningHouseModel" 45 "MourningHouseModel" "feastDay" "[[I" ∈ am_TW := am_tk7 (List.mem_of_getElem? (i := 12) (by decide +kernel)) rfl
theorem wd_1564 : Cond.fieldLink "MourningHouseModel" 48 "MourningHouseModel" "feastDepth" "[[I" ∈ am_TW := am_tk7 (List.mem_of_getElem? (i := 13) (by decide +kernel)) rfl
theorem wd_1565 : Cond.fieldLink "MourningHouseModel" 51 "MourningHouseModel" "heirDays" "[I" ∈ am_TW := am_tk7 (List.mem_of_getElem? (i := 14) (by decide +kernel)) rfl
theorem wd_1566 : Cond.fieldLink "MourningHouseModel" 54 "MourningHouseModel" "heirDepth" "[I" ∈ am_TW := am_tk7 (List.mem_of_getElem? (i := 15) (by decide +kernel)) rfl
theorem wd_1567 : Cond.fieldLink "MourningHouseModel" 57 "MourningHouseModel" "underYears" "[I" ∈ am_TW := am_tk7 (List.mem_of_getElem? (i := 16) (by decide +kernel)) rfl
theorem wd_1568 : Cond.fieldLink "MourningHouseModel" 60 "MourningHouseModel" "underDepth" "[I" ∈ am_TW := am_tk7 (List.mem_of_getElem? (i := 17) (by decide +kernel)) rfl
theorem wd_1569 : Cond.fieldLink "MourningHouseModel" 63 "MourningHouseModel" "weddingDepth" "[I" ∈ am_TW := am_tk7 (List.mem_of_getElem? (i := 18) (by decide +kernel)) rfl
theorem wd_1570 : Cond.fieldLink "MourningHouseModel" 435 "MourningHouseModel" "laws" "I" ∈ am_TW := am_tk7 (List.mem_of_getElem? (i := 19) (by decide +kernel)) rfl
theorem wd_1571 : Cond.fieldLink "MourningHouseModel" 92 "MourningHouseModel" "kinWords" "[Ljava/lang/String;" ∈ am_TW := am_tk7 (List.mem_of_getElem? (i := 20) (by decide +kernel)) rfl
theorem wd_1572 : Cond.fieldLink "MourningHouseModel" 106 "MourningHouseModel" "depthWords" "[Ljava/lang/String;" ∈ am_TW := am_tk7 (List.mem_of_getElem? (i := 21) (by decide +kernel)) rfl
theorem wd_1573 : Cond.fieldLink "MourningHouseModel" 117 "MourningHouseModel" "unitWords" "[Ljava/lang/String;" ∈ am_TW := am_tk7 (List.mem_of_getElem? (i := 22) (by decide +kernel)) rfl
theorem wd_1574 : Cond.fieldLink "MourningHouseModel" 128 "MourningHouseModel" "actWords" "[Ljava/lang/String;" ∈ am_TW := am_tk7 (List.mem_of_getElem? (i := 23) (by decide +kernel)) rfl
theorem wd_1575 : Cond.fieldLink "MourningHouseModel" 139 "MourningHouseModel" "optionWords" "[Ljava/lang/String;" ∈ am_TW := am_tk7 (List.mem_of_getElem? (i := 24) (by decide +kernel)) rfl
theorem wd_1576 : Cond.fieldLink "MourningHouseModel" 142 "MourningHouseModel" "begins" "[I" ∈ am_TW := am_tk7 (List.mem_of_getElem? (i := 25) (by decide +kernel)) rfl
theorem wd_1577 : Cond.fieldLink "MourningHouseModel" 145 "MourningHouseModel" "ends" "[I" ∈ am_TW := am_tk7 (List.mem_of_getElem? (i := 26) (by decide +kernel)) rfl
theorem wd_1578 : Cond.fieldLink "MourningHouseModel" 148 "MourningHouseModel" "kinds" "[I" ∈ am_TW := am_tk7 (List.mem_of_getElem? (i := 27) (by decide +kernel)) rfl
theorem wd_1579 : Cond.fieldLink "MourningHouseModel" 349 "MourningHouseModel" "tokens" "I" ∈ am_TW := am_tk7 (List.mem_of_getElem? (i := 28) (by decide +kernel)) rfl
theorem wd_1580 : Cond.fieldLink "MourningHouseModel" 340 "MourningHouseModel" "line" "I" ∈ am_TW := am_tk7 (List.mem_of_getElem? (i := 29) (by decide +kernel)) rfl
theorem wd_1581 : Cond.fieldLink "MourningHouseModel" 362 "MourningHouseModel" "at" "I" ∈ am_TW := am_tk7 (List.mem_of_getElem? (i := 30) (by decide +kernel)) rfl
theorem wd_1582 : Cond.fieldLink "MourningHouseModel" 444 "MourningHouseModel" "now" "I" ∈ am_TW := am_tk7 (List.mem_of_getElem? (i := 31) (by decide +kernel)) rfl
theorem wd_1583 : Cond.fieldLink "MourningHouseModel" 151 "MourningHouseModel" "sex" "[I" ∈ am_TW := am_tk7 (List.mem_of_getElem? (i := 32) (by decide +kernel)) rfl
theorem wd_1584 : Cond.fieldLink "MourningHouseModel" 154 "MourningHouseModel" "size" "[I" ∈ am_TW := am_tk7 (List.mem_of_getElem? (i := 33) (by decide +kernel)) rfl
theorem wd_1585 : Cond.fieldLink "MourningHouseModel" 157 "MourningHouseModel" "father" "[I" ∈ am_TW := am_tk7 (List.mem_of_getElem? (i := 34) (by decide +kernel)) rfl
theorem wd_1586 : Cond.fieldLink "MourningHouseModel" 159 "MourningHouseModel" "mother" "[I" ∈ am_TW := am_tk7 (List.mem_of_getElem? (i := 35) (by decide +kernel)) rfl
theorem wd_1587 : Cond.fieldLink "MourningHouseModel" 161 "MourningHouseModel" "born" "[I" ∈ am_TW := am_tk7 (List.mem_of_getElem? (i := 36) (by decide +kernel)) rfl
theorem wd_1588 : Cond.fieldLink "MourningHouseModel" 164 "MourningHouseModel" "bornKnown" "[I" ∈ am_TW := am_tk7 (List.mem_of_getElem? (i := 37) (by decide +kernel)) rfl
theorem wd_1589 : Cond.fieldLink "MourningHouseModel" 167 "MourningHouseModel" "died" "[I" ∈ am_TW := am_tk7 (List.mem_of_getElem? (i := 38) (by decide +kernel)) rfl
theorem wd_1590 : Cond.fieldLink "MourningHouseModel" 170 "MourningHouseModel" "diedKnown" "[I" ∈ am_TW := am_tk7 (List.mem_of_getElem? (i := 39) (by decide +kernel)) rfl
theorem wd_1591 : Cond.fieldLink "MourningHouseModel" 447 "MourningHouseModel" "people" "I" ∈ am_TW := am_tk7 (List.mem_of_getElem? (i := 40) (by decide +kernel)) rfl
theorem wd_1592 : Cond.fieldLink "MourningHouseModel" 173 "MourningHouseModel" "wedA" "[I" ∈ am_TW := am_tk7 (List.mem_of_getElem? (i := 41) (by decide +kernel)) rfl
theorem wd_1593 : Cond.fieldLink "MourningHouseModel" 176 "MourningHouseModel" "wedB" "[I" ∈ am_TW := am_tk7 (List.mem_of_getElem? (i := 42) (by decide +kernel)) rfl
theorem wd_1594 : Cond.fieldLink "MourningHouseModel" 179 "MourningHouseModel" "wedDay" "[I" ∈ am_TW := am_tk7 (List.mem_of_getElem? (i := 43) (by decide +kernel)) rfl
theorem wd_1595 : Cond.fieldLink "MourningHouseModel" 182 "MourningHouseModel" "wedKnown" "[I" ∈ am_TW := am_tk7 (List.mem_of_getElem? (i := 44) (by decide +kernel)) rfl
theorem wd_1596 : Cond.fieldLink "MourningHouseModel" 456 "MourningHouseModel" "weddings" "I" ∈ am_TW := am_tk7 (List.mem_of_getElem? (i := 45) (by decide +kernel)) rfl
theorem wd_1597 : Cond.fieldLink "MourningHouseModel" 185 "MourningHouseModel" "courtDay" "[I" ∈ am_TW := am_tk7 (List.mem_of_getElem? (i := 46) (by decide +kernel)) rfl
theorem wd_1598 : Cond.fieldLink "MourningHouseModel" 188 "MourningHouseModel" "courtDays" "[I" ∈ am_TW := am_tk7 (List.mem_of_getElem? (i := 47) (by decide +kernel)) rfl
theorem wd_1599 : Cond.fieldLink "MourningHouseModel" 191 "MourningHouseModel" "courtDepth" "[I" ∈ am_TW := am_tk7 (List.mem_of_getElem? (i := 48) (by decide +kernel)) rfl
theorem wd_1600 : Cond.fieldLink "MourningHouseModel" 194 "MourningHouseModel" "courtKnown" "[I" ∈ am_TW := am_tk7 (List.mem_of_getElem? (i := 49) (by decide +kernel)) rfl
theorem wd_1601 : Cond.fieldLink "MourningHouseModel" 459 "MourningHouseModel" "courts" "I" ∈ am_TW := am_tk7 (List.mem_of_getElem? (i := 50) (by decide +kernel)) rfl
theorem wd_1602 : Cond.fieldLink "MourningHouseModel" 197 "MourningHouseModel" "some" "[Z" ∈ am_TW := am_tk7 (List.mem_of_getElem? (i := 51) (by decide +kernel)) rfl
theorem wd_1603 : Cond.fieldLink "MourningHouseModel" 201 "MourningHouseModel" "next" "[Z" ∈ am_TW := am_tk7 (List.mem_of_getElem? (i := 52) (by decide +kernel)) rfl
theorem wd_1604 : Cond.fieldLink "MourningHouseModel" 204 "MourningHouseModel" "forWhom" "[I" ∈ am_TW := am_tk7 (List.mem_of_getElem? (i := 53) (by decide +kernel)) rfl
theorem wd_1605 : Cond.fieldLink "MourningHouseModel" 207 "MourningHouseModel" "begin" "[I" ∈ am_TW := am_tk7 (List.mem_of_getElem? (i := 54) (by decide +kernel)) rfl
theorem wd_1606 : Cond.fieldLink "MourningHouseModel" 210 "MourningHouseModel" "further" "[I" ∈ am_TW := am_tk7 (List.mem_of_getElem? (i := 55) (by decide +kernel)) rfl
theorem wd_1607 : Cond.fieldLink "MourningHouseModel" 213 "MourningHouseModel" "ruleOf" "[I" ∈ am_TW := am_tk7 (List.mem_of_getElem? (i := 56) (by decide +kernel)) rfl
theorem wd_1608 : Cond.fieldLink "MourningHouseModel" 216 "MourningHouseModel" "lawFor" "[I" ∈ am_TW := am_tk7 (List.mem_of_getElem? (i := 57) (by decide +kernel)) rfl
theorem wd_1609 : Cond.fieldLink "MourningHouseModel" 219 "MourningHouseModel" "lengths" "[[I" ∈ am_TW := am_tk7 (List.mem_of_getElem? (i := 58) (by decide +kernel)) rfl
theorem wd_1610 : Cond.fieldLink "MourningHouseModel" 222 "MourningHouseModel" "isOver" "[Z" ∈ am_TW := am_tk7 (List.mem_of_getElem? (i := 59) (by decide +kernel)) rfl
theorem wd_1611 : Cond.fieldLink "MourningHouseModel" 496 "MourningHouseModel" "entries" "I" ∈ am_TW := am_tk7 (List.mem_of_getElem? (i := 60) (by decide +kernel)) rfl
theorem wd_1612 : Cond.fieldLink "MourningHouseModel" 502 "MourningHouseModel" "who" "I" ∈ am_TW := am_tk7 (List.mem_of_getElem? (i := 61) (by decide +kernel)) rfl
theorem wd_1613 : Cond.fieldLink "MourningHouseModel" 505 "MourningHouseModel" "asKnown" "I" ∈ am_TW := am_tk7 (List.mem_of_getElem? (i := 62) (by decide +kernel)) rfl
theorem wd_1614 : Cond.fieldLink "MourningHouseModel" 525 "MourningHouseModel" "cursor" "I" ∈ am_TW := am_tk7 (List.mem_of_getElem? (i := 63) (by decide +kernel)) rfl
theorem wd_1615 : Cond.fieldLink "MourningHouseModel" 508 "MourningHouseModel" "hasBegun" "Z" ∈ am_TW := am_tk7 (List.mem_of_getElem? (i := 64) (by decide +kernel)) rfl
theorem wd_1616 : Cond.fieldLink "MourningHouseModel" 225 "MourningHouseModel" "deedOf" "[I" ∈ am_TW := am_tk7 (List.mem_of_getElem? (i := 65) (by decide +kernel)) rfl
theorem wd_1617 : Cond.fieldLink "MourningHouseModel" 228 "MourningHouseModel" "deedAct" "[I" ∈ am_TW := am_tk7 (List.mem_of_getElem? (i := 66) (by decide +kernel)) rfl
theorem wd_1618 : Cond.fieldLink "MourningHouseModel" 231 "MourningHouseModel" "deedDay" "[I" ∈ am_TW := am_tk7 (List.mem_of_getElem? (i := 67) (by decide +kernel)) rfl
theorem wd_1619 : Cond.fieldLink "MourningHouseModel" 573 "MourningHouseModel" "deeds" "I" ∈ am_TW := am_tk7 (List.mem_of_getElem? (i := 68) (by decide +kernel)) rfl
theorem wd_1620 : Cond.fieldLink "MourningHouseModel" 234 "MourningHouseModel" "able" "[I" ∈ am_TW := am_tk7 (List.mem_of_getElem? (i := 69) (by decide +kernel)) rfl
theorem wd_1621 : Cond.fieldLink "MourningHouseModel" 237 "MourningHouseModel" "dressSize" "[I" ∈ am_TW := am_tk7 (List.mem_of_getElem? (i := 70) (by decide +kernel)) rfl
theorem wd_1622 : Cond.fieldLink "MourningHouseModel" 240 "MourningHouseModel" "dressStuff" "[I" ∈ am_TW := am_tk7 (List.mem_of_getElem? (i := 71) (by decide +kernel)) rfl
theorem wd_1623 : Cond.fieldLink "MourningHouseModel" 243 "MourningHouseModel" "cloths" "[I" ∈ am_TW := am_tk7 (List.mem_of_getElem? (i := 72) (by decide +kernel)) rfl
theorem wd_1624 : Cond.fieldLink "MourningHouseModel" 582 "MourningHouseModel" "dresses" "I" ∈ am_TW := am_tk7 (List.mem_of_getElem? (i := 73) (by decide +kernel)) rfl
theorem wd_1625 : Cond.fieldLink "MourningHouseModel" 588 "MourningHouseModel" "handMany" "I" ∈ am_TW := am_tk7 (List.mem_of_getElem? (i := 74) (by decide +kernel)) rfl
theorem wd_1626 : Cond.fieldLink "MourningHouseModel" 246 "MourningHouseModel" "taskDress" "[I" ∈ am_TW := am_tk7 (List.mem_of_getElem? (i := 75) (by decide +kernel)) rfl
theorem wd_1627 : Cond.fieldLink "MourningHouseModel" 249 "MourningHouseModel" "taskSize" "[I" ∈ am_TW := am_tk7 (List.mem_of_getElem? (i := 76) (by decide +kernel)) rfl
theorem wd_1628 : Cond.fieldLink "MourningHouseModel" 252 "MourningHouseModel" "taskStuff" "[I" ∈ am_TW := am_tk7 (List.mem_of_getElem? (i := 77) (by decide +kernel)) rfl
theorem wd_1629 : Cond.fieldLink "MourningHouseModel" 255 "MourningHouseModel" "taskLeft" "[I" ∈ am_TW := am_tk7 (List.mem_of_getElem? (i := 78) (by decide +kernel)) rfl
theorem wd_1630 : Cond.fieldLink "MourningHouseModel" 576 "MourningHouseModel" "tasks" "I" ∈ am_TW := am_tk7 (List.mem_of_getElem? (i := 79) (by decide +kernel)) rfl
theorem wd_1631 : Cond.fieldLink "MourningHouseModel" 258 "MourningHouseModel" "asked" "[I" ∈ am_TW := am_tk7 (List.mem_of_getElem? (i := 80) (by decide +kernel)) rfl
theorem wd_1632 : Cond.fieldLink "MourningHouseModel" 261 "MourningHouseModel" "need" "[I" ∈ am_TW := am_tk7 (List.mem_of_getElem? (i := 81) (by decide +kernel)) rfl
theorem wd_1633 : Cond.fieldLink "MourningHouseModel" 264 "MourningHouseModel" "way" "[I" ∈ am_TW := am_tk7 (List.mem_of_getElem? (i := 82) (by decide +kernel)) rfl
theorem wd_1634 : Cond.fieldLink "MourningHouseModel" 267 "MourningHouseModel" "dressFor" "[I" ∈ am_TW := am_tk7 (List.mem_of_getElem? (i := 83) (by decide +kernel)) rfl
theorem wd_1635 : Cond.fieldLink "MourningHouseModel" 270 "MourningHouseModel" "bestWay" "[I" ∈ am_TW := am_tk7 (List.mem_of_getElem? (i := 84) (by decide +kernel)) rfl
theorem wd_1636 : Cond.fieldLink "MourningHouseModel" 273 "MourningHouseModel" "bestDress" "[I" ∈ am_TW := am_tk7 (List.mem_of_getElem? (i := 85) (by decide +kernel)) rfl
theorem wd_1637 : Cond.fieldLink "MourningHouseModel" 276 "MourningHouseModel" "isTaken" "[Z" ∈ am_TW := am_tk7 (List.mem_of_getElem? (i := 86) (by decide +kernel)) rfl
theorem wd_1638 : Cond.fieldLink "MourningHouseModel" 279 "MourningHouseModel" "used" "[I" ∈ am_TW := am_tk7 (List.mem_of_getElem? (i := 87) (by decide +kernel)) rfl
theorem wd_1639 : Cond.fieldLink "MourningHouseModel" 282 "MourningHouseModel" "row" "[I" ∈ am_TW := am_tk7 (List.mem_of_getElem? (i := 88) (by decide +kernel)) rfl
theorem wd_1640 : Cond.fieldLink "MourningHouseModel" 600 "MourningHouseModel" "askedMany" "I" ∈ am_TW := am_tk7 (List.mem_of_getElem? (i := 89) (by decide +kernel)) rfl
theorem wd_1641 : Cond.fieldLink "MourningHouseModel" 605 "MourningHouseModel" "bestBought" "I" ∈ am_TW := am_tk7 (List.mem_of_getElem? (i := 90) (by decide +kernel)) rfl
theorem wd_1642 : Cond.fieldLink "MourningHouseModel" 608 "MourningHouseModel" "bestMade" "I" ∈ am_TW := am_tk7 (List.mem_of_getElem? (i := 91) (by decide +kernel)) rfl
theorem wd_1643 : Cond.fieldLink "MourningHouseModel" 611 "MourningHouseModel" "bestDyed" "I" ∈ am_TW := am_tk7 (List.mem_of_getElem? (i := 92) (by decide +kernel)) rfl
theorem wd_1644 : Cond.fieldLink "MourningHouseModel" 603 "MourningHouseModel" "days" "I" ∈ am_TW := am_tk7 (List.mem_of_getElem? (i := 93) (by decide +kernel)) rfl
theorem wd_1645 : Cond.fieldLink "MourningHouseModel" 285 "MourningHouseModel" "out" "[B" ∈ am_TW := am_tk7 (List.mem_of_getElem? (i := 94) (by decide +kernel)) rfl
theorem wd_1646 : Cond.fieldLink "MourningHouseModel" 288 "MourningHouseModel" "other" "[B" ∈ am_TW := am_tk7 (List.mem_of_getElem? (i := 95) (by decide +kernel)) rfl
theorem wd_1647 : Cond.fieldLink "MourningHouseModel" 634 "MourningHouseModel" "outMany" "I" ∈ am_TW := am_tk7 (List.mem_of_getElem? (i := 96) (by decide +kernel)) rfl
theorem wd_1648 : Cond.fieldLink "MourningHouseModel" 669 "MourningHouseModel" "told" "I" ∈ am_TW := am_tk7 (List.mem_of_getElem? (i := 97) (by decide +kernel)) rfl
theorem wd_1854 : Cond.methodLink "MourningHouseModel" 322 ⟨"MourningHouseModel", "isDay", "(I)Z"⟩ ∈ am_TW := am_tk8 (List.mem_of_getElem? (i := 63) (by decide +kernel)) rfl
theorem wd_1855 : Cond.static ⟨"MourningHouseModel", "isDay", "(I)Z"⟩ ∈ am_TW := am_tk8 (List.mem_of_getElem? (i := 64) (by decide +kernel)) rfl
theorem wd_1857 : Cond.constant "MourningHouseModel" 316 (-36524) ∈ am_TW := am_tk8 (List.mem_of_getElem? (i := 66) (by decide +kernel)) rfl
theorem wd_1858 : Cond.constant "MourningHouseModel" 317 (73047) ∈ am_TW := am_tk8 (List.mem_of_getElem? (i := 67) (by decide +kernel)) rfl
theorem wd_1859 : Cond.methodLink "MourningHouseModel" 318 ⟨"MourningHouseModel", "in", "(III)Z"⟩ ∈ am_TW := am_tk8 (List.mem_of_getElem? (i := 68) (by decide +kernel)) rfl
theorem wd_1860 : Cond.static ⟨"MourningHouseModel", "in", "(III)Z"⟩ ∈ am_TW := am_tk8 (List.mem_of_getElem? (i := 69) (by decide +kernel)) rfl
theorem wd_1862 : Cond.methodLink "MourningHouseModel" 313 ⟨"MourningHouseModel", "dateOf", "(I)I"⟩ ∈ am_TW := am_tk8 (List.mem_of_getElem? (i := 71) (by decide +kernel)) rfl
theorem wd_1863 : Cond.static ⟨"MourningHouseModel", "dateOf", "(I)I"⟩ ∈ am_TW := am_tk8 (List.mem_of_getElem? (i := 72) (by decide +kernel)) rfl
theorem wd_1865 : Cond.methodLink "MourningHouseModel" 307 ⟨"MourningHouseModel", "yearOf", "(I)I"⟩ ∈ am_TW := am_tk8 (List.mem_of_getElem? (i := 74) (by decide +kernel)) rfl
theorem wd_1866 : Cond.static ⟨"MourningHouseModel", "yearOf", "(I)I"⟩ ∈ am_TW := am_tk8 (List.mem_of_getElem? (i := 75) (by decide +kernel)) rfl
theorem wd_1868 : Cond.methodLink "MourningHouseModel" 303 ⟨"MourningHouseModel", "dayOf", "(III)I"⟩ ∈ am_TW := am_tk8 (List.mem_of_getElem? (i := 77) (by decide +kernel)) rfl
theorem wd_1869 : Cond.static ⟨"MourningHouseModel", "dayOf", "(III)I"⟩ ∈ am_TW := am_tk8 (List.mem_of_getElem? (i := 78) (by decide +kernel)) rfl
theorem wd_1871 : Cond.methodLink "MourningHouseModel" 295 ⟨"MourningHouseModel", "ahead", "(I)I"⟩ ∈ am_TW := am_tk8 (List.mem_of_getElem? (i := 80) (by decide +kernel)) rfl
theorem wd_1872 : Cond.static ⟨"MourningHouseModel", "ahead", "(I)I"⟩ ∈ am_TW := am_tk8 (List.mem_of_getElem? (i := 81) (by decide +kernel)) rfl
theorem wd_1874 : Cond.methodLink "MourningHouseModel" 299 ⟨"MourningHouseModel", "lengthOf", "(II)I"⟩ ∈ am_TW := am_tk8 (List.mem_of_getElem? (i := 83) (by decide +kernel)) rfl
theorem wd_1875 : Cond.static ⟨"MourningHouseModel", "lengthOf", "(II)I"⟩ ∈ am_TW := am_tk8 (List.mem_of_getElem? (i := 84) (by decide +kernel)) rfl
theorem wd_1877 : Cond.methodLink "MourningHouseModel" 291 ⟨"MourningHouseModel", "isLeap", "(I)Z"⟩ ∈ am_TW := am_tk8 (List.mem_of_getElem? (i := 86) (by decide +kernel)) rfl
theorem wd_1878 : Cond.static ⟨"MourningHouseModel", "isLeap", "(I)Z"⟩ ∈ am_TW := am_tk8 (List.mem_of_getElem? (i := 87) (by decide +kernel)) rfl
theorem wd_1880 : Cond.methodLink "MourningHouseModel" 310 ⟨"MourningHouseModel", "monthOf", "(I)I"⟩ ∈ am_TW := am_tk8 (List.mem_of_getElem? (i := 89) (by decide +kernel)) rfl
theorem wd_1881 : Cond.static ⟨"MourningHouseModel", "monthOf", "(I)I"⟩ ∈ am_TW := am_tk8 (List.mem_of_getElem? (i := 90) (by decide +kernel)) rfl
theorem wd_1887 : Cond.constant "MourningHouseModel" 325 (-2147483648) ∈ am_TW := am_tk8 (List.mem_of_getElem? (i := 96) (by decide +kernel)) rfl
theorem wd_1892 : Cond.methodLink "MourningHouseModel" 326 ⟨"MourningHouseModel", "behind", "(II)I"⟩ ∈ am_TW := am_tk8 (List.mem_of_getElem? (i := 101) (by decide +kernel)) rfl
theorem wd_1893 : Cond.static ⟨"MourningHouseModel", "behind", "(II)I"⟩ ∈ am_TW := am_tk8 (List.mem_of_getElem? (i := 102) (by decide +kernel)) rfl
theorem wd_1899 : Cond.methodLink "MourningHouseModel" 333 ⟨"MourningHouseModel", "feeds", "(I)V"⟩ ∈ am_TW := am_tk8 (List.mem_of_getElem? (i := 108) (by decide +kernel)) rfl
theorem wd_1901 : Cond.instanceMethod ⟨"MourningHouseModel", "feeds", "(I)V"⟩ ∈ am_TW := am_tk8 (List.mem_of_getElem? (i := 110) (by decide +kernel)) rfl
theorem wd_1911 : Cond.methodLink "MourningHouseModel" 438 ⟨"MourningHouseModel", "reads", "(II)V"⟩ ∈ am_TW := am_tk8 (List.mem_of_getElem? (i := 120) (by decide +kernel)) rfl
theorem wd_1913 : Cond.instanceMethod ⟨"MourningHouseModel", "reads", "(II)V"⟩ ∈ am_TW := am_tk8 (List.mem_of_getElem? (i := 122) (by decide +kernel)) rfl
theorem wd_1915 : Cond.methodLink "MourningHouseModel" 420 ⟨"MourningHouseModel", "splits", "(II)V"⟩ ∈ am_TW := am_tk8 (List.mem_of_getElem? (i := 124) (by decide +kernel)) rfl
theorem wd_1917 : Cond.instanceMethod ⟨"MourningHouseModel", "splits", "(II)V"⟩ ∈ am_TW := am_tk8 (List.mem_of_getElem? (i := 126) (by decide +kernel)) rfl
theorem wd_1919 : Cond.methodLink "MourningHouseModel" 352 ⟨"MourningHouseModel", "isLetter", "(I)Z"⟩ ∈ am_TW := am_tk8 (List.mem_of_getElem? (i := 128) (by decide +kernel)) rfl
theorem wd_1920 : Cond.static ⟨"MourningHouseModel", "isLetter", "(I)Z"⟩ ∈ am_TW := am_tk8 (List.mem_of_getElem? (i := 129) (by decide +kernel)) rfl
theorem wd_1922 : Cond.methodLink "MourningHouseModel" 355 ⟨"MourningHouseModel", "isDigit", "(I)Z"⟩ ∈ am_TW := am_tk8 (List.mem_of_getElem? (i := 131) (by decide +kernel)) rfl
theorem wd_1923 : Cond.static ⟨"MourningHouseModel", "isDigit", "(I)Z"⟩ ∈ am_TW := am_tk8 (List.mem_of_getElem? (i := 132) (by decide +kernel)) rfl
theorem wd_1925 : Cond.methodLink "MourningHouseModel" 358 ⟨"MourningHouseModel", "faults", "(II)V"⟩ ∈ am_TW := am_tk8 (List.mem_of_getElem? (i := 134) (by decide +kernel)) rfl
theorem wd_1927 : Cond.instanceMethod ⟨"MourningHouseModel", "faults", "(II)V"⟩ ∈ am_TW := am_tk8 (List.mem_of_getElem? (i := 136) (by decide +kernel)) rfl
theorem wd_1930 : Cond.methodLink "MourningHouseModel" 373 ⟨"MourningHouseModel", "isWord", "(Ljava/lang/String;)Z"⟩ ∈ am_TW := am_tk8 (List.mem_of_getElem? (i := 139) (by decide +kernel)) rfl
theorem wd_1932 : Cond.instanceMethod ⟨"MourningHouseModel", "isWord", "(Ljava/lang/String;)Z"⟩ ∈ am_TW := am_tk8 (List.mem_of_getElem? (i := 141) (by decide +kernel)) rfl
theorem wd_1934 : Cond.methodLink "MourningHouseModel" 365 ⟨"java/lang/String", "length", "()I"⟩ ∈ am_TW := am_tk8 (List.mem_of_getElem? (i := 143) (by decide +kernel)) rfl
theorem wd_1935 : Cond.methodLink "MourningHouseModel" 369 ⟨"java/lang/String", "charAt", "(I)C"⟩ ∈ am_TW := am_tk8 (List.mem_of_getElem? (i := 144) (by decide +kernel)) rfl
theorem wd_1936 : Cond.methodLink "MourningHouseModel" 425 ⟨"MourningHouseModel", "rule", "()V"⟩ ∈ am_TW := am_tk8 (List.mem_of_getElem? (i := 145) (by decide +kernel)) rfl
theorem wd_1938 : Cond.instanceMethod ⟨"MourningHouseModel", "rule", "()V"⟩ ∈ am_TW := am_tk8 (List.mem_of_getElem? (i := 147) (by decide +kernel)) rfl
theorem wd_1940 : Cond.methodLink "MourningHouseModel" 395 ⟨"MourningHouseModel", "word", "(I)V"⟩ ∈ am_TW := am_tk8 (List.mem_of_getElem? (i := 149) (by decide +kernel)) rfl
theorem wd_1942 : Cond.instanceMethod ⟨"MourningHouseModel", "word", "(I)V"⟩ ∈ am_TW := am_tk8 (List.mem_of_getElem? (i := 151) (by decide +kernel)) rfl
theorem wd_1944 : Cond.methodLink "MourningHouseModel" 377 ⟨"MourningHouseModel", "wordOf", "([Ljava/lang/String;)I"⟩ ∈ am_TW := am_tk8 (List.mem_of_getElem? (i := 153) (by decide +kernel)) rfl
theorem wd_1946 : Cond.instanceMethod ⟨"MourningHouseModel", "wordOf", "([Ljava/lang/String;)I"⟩ ∈ am_TW := am_tk8 (List.mem_of_getElem? (i := 155) (by decide +kernel)) rfl
theorem wd_1949 : Cond.methodLink "MourningHouseModel" 400 ⟨"MourningHouseModel", "needs", "(I)V"⟩ ∈ am_TW := am_tk8 (List.mem_of_getElem? (i := 158) (by decide +kernel)) rfl
theorem wd_1951 : Cond.instanceMethod ⟨"MourningHouseModel", "needs", "(I)V"⟩ ∈ am_TW := am_tk8 (List.mem_of_getElem? (i := 160) (by decide +kernel)) rfl
theorem wd_1953 : Cond.methodLink "MourningHouseModel" 381 ⟨"MourningHouseModel", "isSign", "(I)Z"⟩ ∈ am_TW := am_tk8 (List.mem_of_getElem? (i := 162) (by decide +kernel)) rfl
theorem wd_1955 : Cond.instanceMethod ⟨"MourningHouseModel", "isSign", "(I)Z"⟩ ∈ am_TW := am_tk8 (List.mem_of_getElem? (i := 164) (by decide +kernel)) rfl
theorem wd_1957 : Cond.methodLink "MourningHouseModel" 402 ⟨"MourningHouseModel", "stage", "(I)V"⟩ ∈ am_TW := am_tk8 (List.mem_of_getElem? (i := 166) (by decide +kernel)) rfl
theorem wd_1959 : Cond.instanceMethod ⟨"MourningHouseModel", "stage", "(I)V"⟩ ∈ am_TW := am_tk8 (List.mem_of_getElem? (i := 168) (by decide +kernel)) rfl
theorem wd_1961 : Cond.methodLink "MourningHouseModel" 384 ⟨"MourningHouseModel", "number", "(II)I"⟩ ∈ am_TW := am_tk8 (List.mem_of_getElem? (i := 170) (by decide +kernel)) rfl
theorem wd_1963 : Cond.instanceMethod ⟨"MourningHouseModel", "number", "(II)I"⟩ ∈ am_TW := am_tk8 (List.mem_of_getElem? (i := 172) (by decide +kernel)) rfl
theorem wd_1965 : Cond.methodLink "MourningHouseModel" 387 ⟨"MourningHouseModel", "needs", "([Ljava/lang/String;)I"⟩ ∈ am_TW := am_tk8 (List.mem_of_getElem? (i := 174) (by decide +kernel)) rfl
theorem wd_1967 : Cond.instanceMethod ⟨"MourningHouseModel", "needs", "([Ljava/lang/String;)I"⟩ ∈ am_TW := am_tk8 (List.mem_of_getElem? (i := 176) (by decide +kernel)) rfl
theorem wd_1969 : Cond.methodLink "MourningHouseModel" 405 ⟨"MourningHouseModel", "option", "(I)V"⟩ ∈ am_TW := am_tk8 (List.mem_of_getElem? (i := 178) (by decide +kernel)) rfl
theorem wd_1971 : Cond.instanceMethod ⟨"MourningHouseModel", "option", "(I)V"⟩ ∈ am_TW := am_tk8 (List.mem_of_getElem? (i := 180) (by decide +kernel)) rfl
theorem wd_1974 : Cond.methodLink "MourningHouseModel" 392 ⟨"MourningHouseModel", "needs", "(Ljava/lang/String;)V"⟩ ∈ am_TW := am_tk8 (List.mem_of_getElem? (i := 183) (by decide +kernel)) rfl
theorem wd_1976 : Cond.instanceMethod ⟨"MourningHouseModel", "needs", "(Ljava/lang/String;)V"⟩ ∈ am_TW := am_tk8 (List.mem_of_getElem? (i := 185) (by decide +kernel)) rfl
theorem wd_1979 : Cond.methodLink "MourningHouseModel" 430 ⟨"MourningHouseModel", "feast", "()V"⟩ ∈ am_TW := am_tk8 (List.mem_of_getElem? (i := 188) (by decide +kernel)) rfl
theorem wd_1981 : Cond.instanceMethod ⟨"MourningHouseModel", "feast", "()V"⟩ ∈ am_TW := am_tk8 (List.mem_of_getElem? (i := 190) (by decide +kernel)) rfl
theorem wd_1984 : Cond.methodLink "MourningHouseModel" 432 ⟨"MourningHouseModel", "others", "()V"⟩ ∈ am_TW := am_tk8 (List.mem_of_getElem? (i := 193) (by decide +kernel)) rfl
theorem wd_1986 : Cond.instanceMethod ⟨"MourningHouseModel", "others", "()V"⟩ ∈ am_TW := am_tk8 (List.mem_of_getElem? (i := 195) (by decide +kernel)) rfl
theorem wd_1994 : Cond.methodLink "MourningHouseModel" 441 ⟨"MourningHouseModel", "copies", "(I)V"⟩ ∈ am_TW := am_tk8 (List.mem_of_getElem? (i := 203) (by decide +kernel)) rfl
theorem wd_1996 : Cond.instanceMethod ⟨"MourningHouseModel", "copies", "(I)V"⟩ ∈ am_TW := am_tk8 (List.mem_of_getElem? (i := 205) (by decide +kernel)) rfl
theorem wd_2006 : Cond.methodLink "MourningHouseModel" 450 ⟨"MourningHouseModel", "works", "()V"⟩ ∈ am_TW := am_tk8 (List.mem_of_getElem? (i := 215) (by decide +kernel)) rfl
theorem wd_2008 : Cond.instanceMethod ⟨"MourningHouseModel", "works", "()V"⟩ ∈ am_TW := am_tk8 (List.mem_of_getElem? (i := 217) (by decide +kernel)) rfl
theorem wd_2010 : Cond.methodLink "MourningHouseModel" 597 ⟨"MourningHouseModel", "done", "(I)V"⟩ ∈ am_TW := am_tk8 (List.mem_of_getElem? (i := 219) (by decide +kernel)) rfl
theorem wd_2012 : Cond.instanceMethod ⟨"MourningHouseModel", "done", "(I)V"⟩ ∈ am_TW := am_tk8 (List.mem_of_getElem? (i := 221) (by decide +kernel)) rfl
theorem wd_2018 : Cond.methodLink "MourningHouseModel" 453 ⟨"MourningHouseModel", "isPerson", "(I)Z"⟩ ∈ am_TW := am_tk8 (List.mem_of_getElem? (i := 227) (by decide +kernel)) rfl
theorem wd_2020 : Cond.instanceMethod ⟨"MourningHouseModel", "isPerson", "(I)Z"⟩ ∈ am_TW := am_tk8 (List.mem_of_getElem? (i := 229) (by decide +kernel)) rfl
theorem wd_2038 : Cond.methodLink "MourningHouseModel" 483 ⟨"MourningHouseModel", "isKinBy", "(IIIIII)Z"⟩ ∈ am_TW := am_tk9 (List.mem_of_getElem? (i := 7) (by decide +kernel)) rfl
theorem wd_2040 : Cond.instanceMethod ⟨"MourningHouseModel", "isKinBy", "(IIIIII)Z"⟩ ∈ am_TW := am_tk9 (List.mem_of_getElem? (i := 9) (by decide +kernel)) rfl
theorem wd_2042 : Cond.methodLink "MourningHouseModel" 476 ⟨"MourningHouseModel", "isThere", "(II)Z"⟩ ∈ am_TW := am_tk9 (List.mem_of_getElem? (i := 11) (by decide +kernel)) rfl
theorem wd_2044 : Cond.instanceMethod ⟨"MourningHouseModel", "isThere", "(II)Z"⟩ ∈ am_TW := am_tk9 (List.mem_of_getElem? (i := 13) (by decide +kernel)) rfl
theorem wd_2046 : Cond.methodLink "MourningHouseModel" 479 ⟨"MourningHouseModel", "isKin", "(IIIII)Z"⟩ ∈ am_TW := am_tk9 (List.mem_of_getElem? (i := 15) (by decide +kernel)) rfl
theorem wd_2048 : Cond.instanceMethod ⟨"MourningHouseModel", "isKin", "(IIIII)Z"⟩ ∈ am_TW := am_tk9 (List.mem_of_getElem? (i := 17) (by decide +kernel)) rfl
theorem wd_2050 : Cond.methodLink "MourningHouseModel" 462 ⟨"MourningHouseModel", "isMan", "(I)Z"⟩ ∈ am_TW := am_tk9 (List.mem_of_getElem? (i := 19) (by decide +kernel)) rfl
theorem wd_2051 : Cond.static ⟨"MourningHouseModel", "isMan", "(I)Z"⟩ ∈ am_TW := am_tk9 (List.mem_of_getElem? (i := 20) (by decide +kernel)) rfl
theorem wd_2053 : Cond.methodLink "MourningHouseModel" 465 ⟨"MourningHouseModel", "isSpouse", "(IIII)Z"⟩ ∈ am_TW := am_tk9 (List.mem_of_getElem? (i := 22) (by decide +kernel)) rfl
theorem wd_2055 : Cond.instanceMethod ⟨"MourningHouseModel", "isSpouse", "(IIII)Z"⟩ ∈ am_TW := am_tk9 (List.mem_of_getElem? (i := 24) (by decide +kernel)) rfl
theorem wd_2057 : Cond.methodLink "MourningHouseModel" 469 ⟨"MourningHouseModel", "isParent", "(II)Z"⟩ ∈ am_TW := am_tk9 (List.mem_of_getElem? (i := 26) (by decide +kernel)) rfl
theorem wd_2059 : Cond.instanceMethod ⟨"MourningHouseModel", "isParent", "(II)Z"⟩ ∈ am_TW := am_tk9 (List.mem_of_getElem? (i := 28) (by decide +kernel)) rfl
theorem wd_2061 : Cond.methodLink "MourningHouseModel" 473 ⟨"MourningHouseModel", "isSibling", "(II)Z"⟩ ∈ am_TW := am_tk9 (List.mem_of_getElem? (i := 30) (by decide +kernel)) rfl
theorem wd_2063 : Cond.instanceMethod ⟨"MourningHouseModel", "isSibling", "(II)Z"⟩ ∈ am_TW := am_tk9 (List.mem_of_getElem? (i := 32) (by decide +kernel)) rfl
theorem wd_2069 : Cond.methodLink "MourningHouseModel" 490 ⟨"MourningHouseModel", "isKnownDay", "(I)Z"⟩ ∈ am_TW := am_tk9 (List.mem_of_getElem? (i := 38) (by decide +kernel)) rfl
theorem wd_2071 : Cond.instanceMethod ⟨"MourningHouseModel", "isKnownDay", "(I)Z"⟩ ∈ am_TW := am_tk9 (List.mem_of_getElem? (i := 40) (by decide +kernel)) rfl
theorem wd_2073 : Cond.methodLink "MourningHouseModel" 493 ⟨"MourningHouseModel", "ruleFor", "(III)I"⟩ ∈ am_TW := am_tk9 (List.mem_of_getElem? (i := 42) (by decide +kernel)) rfl
theorem wd_2075 : Cond.instanceMethod ⟨"MourningHouseModel", "ruleFor", "(III)I"⟩ ∈ am_TW := am_tk9 (List.mem_of_getElem? (i := 44) (by decide +kernel)) rfl
theorem wd_2077 : Cond.methodLink "MourningHouseModel" 487 ⟨"MourningHouseModel", "lawOf", "(II)I"⟩ ∈ am_TW := am_tk9 (List.mem_of_getElem? (i := 46) (by decide +kernel)) rfl
theorem wd_2079 : Cond.instanceMethod ⟨"MourningHouseModel", "lawOf", "(II)I"⟩ ∈ am_TW := am_tk9 (List.mem_of_getElem? (i := 48) (by decide +kernel)) rfl
theorem wd_2085 : Cond.methodLink "MourningHouseModel" 560 ⟨"MourningHouseModel", "depthAt", "(III)I"⟩ ∈ am_TW := am_tk9 (List.mem_of_getElem? (i := 54) (by decide +kernel)) rfl
theorem wd_2087 : Cond.instanceMethod ⟨"MourningHouseModel", "depthAt", "(III)I"⟩ ∈ am_TW := am_tk9 (List.mem_of_getElem? (i := 56) (by decide +kernel)) rfl
theorem wd_2089 : Cond.methodLink "MourningHouseModel" 548 ⟨"MourningHouseModel", "isAlive", "(III)Z"⟩ ∈ am_TW := am_tk9 (List.mem_of_getElem? (i := 58) (by decide +kernel)) rfl
theorem wd_2091 : Cond.instanceMethod ⟨"MourningHouseModel", "isAlive", "(III)Z"⟩ ∈ am_TW := am_tk9 (List.mem_of_getElem? (i := 60) (by decide +kernel)) rfl
theorem wd_2093 : Cond.methodLink "MourningHouseModel" 551 ⟨"MourningHouseModel", "prepares", "(II)V"⟩ ∈ am_TW := am_tk9 (List.mem_of_getElem? (i := 62) (by decide +kernel)) rfl
theorem wd_2095 : Cond.instanceMethod ⟨"MourningHouseModel", "prepares", "(II)V"⟩ ∈ am_TW := am_tk9 (List.mem_of_getElem? (i := 64) (by decide +kernel)) rfl
theorem wd_2097 : Cond.methodLink "MourningHouseModel" 512 ⟨"MourningHouseModel", "enters", "(IIII)V"⟩ ∈ am_TW := am_tk9 (List.mem_of_getElem? (i := 66) (by decide +kernel)) rfl
theorem wd_2099 : Cond.instanceMethod ⟨"MourningHouseModel", "enters", "(IIII)V"⟩ ∈ am_TW := am_tk9 (List.mem_of_getElem? (i := 68) (by decide +kernel)) rfl
theorem wd_2101 : Cond.methodLink "MourningHouseModel" 499 ⟨"MourningHouseModel", "reached", "(III)I"⟩ ∈ am_TW := am_tk9 (List.mem_of_getElem? (i := 70) (by decide +kernel)) rfl
theorem wd_2102 : Cond.static ⟨"MourningHouseModel", "reached", "(III)I"⟩ ∈ am_TW := am_tk9 (List.mem_of_getElem? (i := 71) (by decide +kernel)) rfl
theorem wd_2104 : Cond.methodLink "MourningHouseModel" 554 ⟨"MourningHouseModel", "goesTo", "(I)V"⟩ ∈ am_TW := am_tk9 (List.mem_of_getElem? (i := 73) (by decide +kernel)) rfl
theorem wd_2106 : Cond.instanceMethod ⟨"MourningHouseModel", "goesTo", "(I)V"⟩ ∈ am_TW := am_tk9 (List.mem_of_getElem? (i := 75) (by decide +kernel)) rfl
theorem wd_2108 : Cond.methodLink "MourningHouseModel" 522 ⟨"MourningHouseModel", "firstBegin", "()I"⟩ ∈ am_TW := am_tk9 (List.mem_of_getElem? (i := 77) (by decide +kernel)) rfl
theorem wd_2110 : Cond.instanceMethod ⟨"MourningHouseModel", "firstBegin", "()I"⟩ ∈ am_TW := am_tk9 (List.mem_of_getElem? (i := 79) (by decide +kernel)) rfl
theorem wd_2112 : Cond.constant "MourningHouseModel" 518 (2147483647) ∈ am_TW := am_tk9 (List.mem_of_getElem? (i := 81) (by decide +kernel)) rfl
theorem wd_2113 : Cond.methodLink "MourningHouseModel" 528 ⟨"MourningHouseModel", "weds", "(I)V"⟩ ∈ am_TW := am_tk9 (List.mem_of_getElem? (i := 82) (by decide +kernel)) rfl
theorem wd_2115 : Cond.instanceMethod ⟨"MourningHouseModel", "weds", "(I)V"⟩ ∈ am_TW := am_tk9 (List.mem_of_getElem? (i := 84) (by decide +kernel)) rfl
theorem wd_2117 : Cond.methodLink "MourningHouseModel" 519 ⟨"MourningHouseModel", "depthOf", "(II)I"⟩ ∈ am_TW := am_tk9 (List.mem_of_getElem? (i := 86) (by decide +kernel)) rfl
theorem wd_2119 : Cond.instanceMethod ⟨"MourningHouseModel", "depthOf", "(II)I"⟩ ∈ am_TW := am_tk9 (List.mem_of_getElem? (i := 88) (by decide +kernel)) rfl
theorem wd_2121 : Cond.methodLink "MourningHouseModel" 531 ⟨"MourningHouseModel", "advances", "(I)V"⟩ ∈ am_TW := am_tk9 (List.mem_of_getElem? (i := 90) (by decide +kernel)) rfl
theorem wd_2123 : Cond.instanceMethod ⟨"MourningHouseModel", "advances", "(I)V"⟩ ∈ am_TW := am_tk9 (List.mem_of_getElem? (i := 92) (by decide +kernel)) rfl
theorem wd_2125 : Cond.methodLink "MourningHouseModel" 557 ⟨"MourningHouseModel", "depthNow", "(I)I"⟩ ∈ am_TW := am_tk9 (List.mem_of_getElem? (i := 94) (by decide +kernel)) rfl
theorem wd_2127 : Cond.instanceMethod ⟨"MourningHouseModel", "depthNow", "(I)I"⟩ ∈ am_TW := am_tk9 (List.mem_of_getElem? (i := 96) (by decide +kernel)) rfl
theorem wd_2129 : Cond.methodLink "MourningHouseModel" 534 ⟨"MourningHouseModel", "feastCap", "(II)I"⟩ ∈ am_TW := am_tk9 (List.mem_of_getElem? (i := 98) (by decide +kernel)) rfl
theorem wd_2131 : Cond.instanceMethod ⟨"MourningHouseModel", "feastCap", "(II)I"⟩ ∈ am_TW := am_tk9 (List.mem_of_getElem? (i := 100) (by decide +kernel)) rfl
theorem wd_2133 : Cond.methodLink "MourningHouseModel" 537 ⟨"MourningHouseModel", "heirCap", "(III)I"⟩ ∈ am_TW := am_tk9 (List.mem_of_getElem? (i := 102) (by decide +kernel)) rfl
theorem wd_2135 : Cond.instanceMethod ⟨"MourningHouseModel", "heirCap", "(III)I"⟩ ∈ am_TW := am_tk9 (List.mem_of_getElem? (i := 104) (by decide +kernel)) rfl
theorem wd_2137 : Cond.methodLink "MourningHouseModel" 540 ⟨"java/lang/Math", "min", "(II)I"⟩ ∈ am_TW := am_tk9 (List.mem_of_getElem? (i := 106) (by decide +kernel)) rfl
theorem wd_2138 : Cond.methodLink "MourningHouseModel" 545 ⟨"java/lang/Math", "max", "(II)I"⟩ ∈ am_TW := am_tk9 (List.mem_of_getElem? (i := 107) (by decide +kernel)) rfl
theorem wd_2143 : Cond.constant "MourningHouseModel" 563 (73048) ∈ am_TW := am_tk9 (List.mem_of_getElem? (i := 112) (by decide +kernel)) rfl
theorem wd_2152 : Cond.methodLink "MourningHouseModel" 567 ⟨"MourningHouseModel", "isAct", "(I)Z"⟩ ∈ am_TW := am_tk9 (List.mem_of_getElem? (i := 121) (by decide +kernel)) rfl
theorem wd_2153 : Cond.static ⟨"MourningHouseModel", "isAct", "(I)Z"⟩ ∈ am_TW := am_tk9 (List.mem_of_getElem? (i := 122) (by decide +kernel)) rfl
theorem wd_2155 : Cond.methodLink "MourningHouseModel" 570 ⟨"MourningHouseModel", "mayAt", "(IIII)Z"⟩ ∈ am_TW := am_tk9 (List.mem_of_getElem? (i := 124) (by decide +kernel)) rfl
theorem wd_2157 : Cond.instanceMethod ⟨"MourningHouseModel", "mayAt", "(IIII)Z"⟩ ∈ am_TW := am_tk9 (List.mem_of_getElem? (i := 126) (by decide +kernel)) rfl
theorem wd_2159 : Cond.methodLink "MourningHouseModel" 564 ⟨"MourningHouseModel", "mayBe", "(II)Z"⟩ ∈ am_TW := am_tk9 (List.mem_of_getElem? (i := 128) (by decide +kernel)) rfl
theorem wd_2161 : Cond.instanceMethod ⟨"MourningHouseModel", "mayBe", "(II)Z"⟩ ∈ am_TW := am_tk9 (List.mem_of_getElem? (i := 130) (by decide +kernel)) rfl
theorem wd_2183 : Cond.methodLink "MourningHouseModel" 579 ⟨"MourningHouseModel", "isStuff", "(I)Z"⟩ ∈ am_TW := am_tk9 (List.mem_of_getElem? (i := 152) (by decide +kernel)) rfl
theorem wd_2184 : Cond.static ⟨"MourningHouseModel", "isStuff", "(I)Z"⟩ ∈ am_TW := am_tk9 (List.mem_of_getElem? (i := 153) (by decide +kernel)) rfl
theorem wd_2186 : Cond.methodLink "MourningHouseModel" 585 ⟨"MourningHouseModel", "making", "()I"⟩ ∈ am_TW := am_tk9 (List.mem_of_getElem? (i := 155) (by decide +kernel)) rfl
theorem wd_2188 : Cond.instanceMethod ⟨"MourningHouseModel", "making", "()I"⟩ ∈ am_TW := am_tk9 (List.mem_of_getElem? (i := 157) (by decide +kernel)) rfl
theorem wd_2202 : Cond.methodLink "MourningHouseModel" 591 ⟨"MourningHouseModel", "hasTask", "(I)Z"⟩ ∈ am_TW := am_tk9 (List.mem_of_getElem? (i := 171) (by decide +kernel)) rfl
theorem wd_2204 : Cond.instanceMethod ⟨"MourningHouseModel", "hasTask", "(I)Z"⟩ ∈ am_TW := am_tk9 (List.mem_of_getElem? (i := 173) (by decide +kernel)) rfl
theorem wd_2206 : Cond.methodLink "MourningHouseModel" 594 ⟨"MourningHouseModel", "asks", "(IIII)V"⟩ ∈ am_TW := am_tk9 (List.mem_of_getElem? (i := 175) (by decide +kernel)) rfl
theorem wd_2208 : Cond.instanceMethod ⟨"MourningHouseModel", "asks", "(IIII)V"⟩ ∈ am_TW := am_tk9 (List.mem_of_getElem? (i := 177) (by decide +kernel)) rfl
theorem wd_2218 : Cond.methodLink "MourningHouseModel" 631 ⟨"MourningHouseModel", "plans", "(II)Z"⟩ ∈ am_TW := am_tk9 (List.mem_of_getElem? (i := 187) (by decide +kernel)) rfl
theorem wd_2220 : Cond.instanceMethod ⟨"MourningHouseModel", "plans", "(II)Z"⟩ ∈ am_TW := am_tk9 (List.mem_of_getElem? (i := 189) (by decide +kernel)) rfl
theorem wd_2222 : Cond.methodLink "MourningHouseModel" 618 ⟨"MourningHouseModel", "tries", "(I)V"⟩ ∈ am_TW := am_tk9 (List.mem_of_getElem? (i := 191) (by decide +kernel)) rfl
theorem wd_2224 : Cond.instanceMethod ⟨"MourningHouseModel", "tries", "(I)V"⟩ ∈ am_TW := am_tk9 (List.mem_of_getElem? (i := 193) (by decide +kernel)) rfl
theorem wd_2226 : Cond.methodLink "MourningHouseModel" 621 ⟨"MourningHouseModel", "looks", "()V"⟩ ∈ am_TW := am_tk9 (List.mem_of_getElem? (i := 195) (by decide +kernel)) rfl
theorem wd_2228 : Cond.instanceMethod ⟨"MourningHouseModel", "looks", "()V"⟩ ∈ am_TW := am_tk9 (List.mem_of_getElem? (i := 197) (by decide +kernel)) rfl
theorem wd_2230 : Cond.methodLink "MourningHouseModel" 614 ⟨"MourningHouseModel", "isInTime", "()Z"⟩ ∈ am_TW := am_tk9 (List.mem_of_getElem? (i := 199) (by decide +kernel)) rfl
theorem wd_2232 : Cond.instanceMethod ⟨"MourningHouseModel", "isInTime", "()Z"⟩ ∈ am_TW := am_tk9 (List.mem_of_getElem? (i := 201) (by decide +kernel)) rfl
theorem wd_2234 : Cond.methodLink "MourningHouseModel" 624 ⟨"MourningHouseModel", "takes", "(III)V"⟩ ∈ am_TW := am_tk9 (List.mem_of_getElem? (i := 203) (by decide +kernel)) rfl
theorem wd_2236 : Cond.instanceMethod ⟨"MourningHouseModel", "takes", "(III)V"⟩ ∈ am_TW := am_tk9 (List.mem_of_getElem? (i := 205) (by decide +kernel)) rfl
theorem wd_2238 : Cond.methodLink "MourningHouseModel" 628 ⟨"MourningHouseModel", "least", "(II)I"⟩ ∈ am_TW := am_tk9 (List.mem_of_getElem? (i := 207) (by decide +kernel)) rfl
theorem wd_2240 : Cond.instanceMethod ⟨"MourningHouseModel", "least", "(II)I"⟩ ∈ am_TW := am_tk9 (List.mem_of_getElem? (i := 209) (by decide +kernel)) rfl
theorem wd_2250 : Cond.methodLink "MourningHouseModel" 663 ⟨"MourningHouseModel", "isRule", "(II)Z"⟩ ∈ am_TW := am_tk9 (List.mem_of_getElem? (i := 219) (by decide +kernel)) rfl
theorem wd_2252 : Cond.instanceMethod ⟨"MourningHouseModel", "isRule", "(II)Z"⟩ ∈ am_TW := am_tk9 (List.mem_of_getElem? (i := 221) (by decide +kernel)) rfl
theorem wd_2254 : Cond.methodLink "MourningHouseModel" 666 ⟨"MourningHouseModel", "writesRule", "(II)V"⟩ ∈ am_TW := am_tk9 (List.mem_of_getElem? (i := 223) (by decide +kernel)) rfl
theorem wd_2256 : Cond.instanceMethod ⟨"MourningHouseModel", "writesRule", "(II)V"⟩ ∈ am_TW := am_tk9 (List.mem_of_getElem? (i := 225) (by decide +kernel)) rfl
theorem wd_2483 : Cond.methodLink "MourningHouseModel" 672 ⟨"MourningHouseModel", "areOne", "(III)Z"⟩ ∈ am_TW := am_tk10 (List.mem_of_getElem? (i := 212) (by decide +kernel)) rfl
theorem wd_2485 : Cond.instanceMethod ⟨"MourningHouseModel", "areOne", "(III)Z"⟩ ∈ am_TW := am_tk10 (List.mem_of_getElem? (i := 214) (by decide +kernel)) rfl
theorem wd_2487 : Cond.methodLink "MourningHouseModel" 675 ⟨"MourningHouseModel", "areAlike", "(III)Z"⟩ ∈ am_TW := am_tk10 (List.mem_of_getElem? (i := 216) (by decide +kernel)) rfl
theorem wd_2489 : Cond.instanceMethod ⟨"MourningHouseModel", "areAlike", "(III)Z"⟩ ∈ am_TW := am_tk10 (List.mem_of_getElem? (i := 218) (by decide +kernel)) rfl
theorem wc_J0_charAt_5068e : am_code mJ0_charAt_5068e := am_tk3 (List.mem_of_getElem? (i := 143) (by decide +kernel)) rfl
theorem wc_J0_length_8abf5 : am_code mJ0_length_8abf5 := am_tk3 (List.mem_of_getElem? (i := 133) (by decide +kernel)) rfl
theorem wc_J6_bitCount_0f7a4 : am_code mJ6_bitCount_0f7a4 := am_tk6 (List.mem_of_getElem? (i := 101) (by decide +kernel)) rfl
theorem wc_X0_dateOf : am_code mX0_dateOf := am_tk4 (List.mem_of_getElem? (i := 180) (by decide +kernel)) rfl
theorem wc_X0_dayOf : am_code mX0_dayOf := am_tk4 (List.mem_of_getElem? (i := 196) (by decide +kernel)) rfl
theorem wc_X0_has : am_code mX0_has := am_tk4 (List.mem_of_getElem? (i := 175) (by decide +kernel)) rfl
theorem wc_X0_hasDate : am_code mX0_hasDate := am_tk4 (List.mem_of_getElem? (i := 191) (by decide +kernel)) rfl
theorem wc_X0_later : am_code mX0_later := am_tk4 (List.mem_of_getElem? (i := 204) (by decide +kernel)) rfl
theorem wc_X0_lengthOf : am_code mX0_lengthOf := am_tk4 (List.mem_of_getElem? (i := 64) (by decide +kernel)) rfl
theorem wc_X10_codeOf : am_code mX10_codeOf := am_tk3 (List.mem_of_getElem? (i := 74) (by decide +kernel)) rfl
theorem wc_X10_isAct : am_code mX10_isAct := am_tk4 (List.mem_of_getElem? (i := 46) (by decide +kernel)) rfl
theorem wc_X10_isAt : am_code mX10_isAt := am_tk3 (List.mem_of_getElem? (i := 129) (by decide +kernel)) rfl
theorem wc_X10_isKin : am_code mX10_isKin := am_tk3 (List.mem_of_getElem? (i := 222) (by decide +kernel)) rfl
theorem wc_X10_isMourning : am_code mX10_isMourning := am_tk3 (List.mem_of_getElem? (i := 237) (by decide +kernel)) rfl
theorem wc_X10_isOption : am_code mX10_isOption := am_tk4 (List.mem_of_getElem? (i := 31) (by decide +kernel)) rfl
theorem wc_X10_isStuff : am_code mX10_isStuff := am_tk4 (List.mem_of_getElem? (i := 53) (by decide +kernel)) rfl
theorem wc_X10_isUnit : am_code mX10_isUnit := am_tk4 (List.mem_of_getElem? (i := 20) (by decide +kernel)) rfl
theorem wc_X10_kinOrColour : am_code mX10_kinOrColour := am_tk3 (List.mem_of_getElem? (i := 80) (by decide +kernel)) rfl
theorem wc_X10_lineWord : am_code mX10_lineWord := am_tk3 (List.mem_of_getElem? (i := 115) (by decide +kernel)) rfl
theorem wc_X10_nameOf : am_code mX10_nameOf := am_tk3 (List.mem_of_getElem? (i := 77) (by decide +kernel)) rfl
theorem wc_X10_signOf : am_code mX10_signOf := am_tk3 (List.mem_of_getElem? (i := 180) (by decide +kernel)) rfl
theorem wc_X10_termOrOption : am_code mX10_termOrOption := am_tk3 (List.mem_of_getElem? (i := 100) (by decide +kernel)) rfl
theorem wc_X11_best : am_code mX11_best := am_tk6 (List.mem_of_getElem? (i := 22) (by decide +kernel)) rfl
theorem wc_X11_cloth : am_code mX11_cloth := am_tk6 (List.mem_of_getElem? (i := 49) (by decide +kernel)) rfl
theorem wc_X11_count : am_code mX11_count := am_tk6 (List.mem_of_getElem? (i := 192) (by decide +kernel)) rfl
theorem wc_X11_countAllowed : am_code mX11_countAllowed := am_tk6 (List.mem_of_getElem? (i := 29) (by decide +kernel)) rfl
theorem wc_X11_court : am_code mX11_court := am_tk5 (List.mem_of_getElem? (i := 55) (by decide +kernel)) rfl
theorem wc_X11_date : am_code mX11_date := am_tk4 (List.mem_of_getElem? (i := 172) (by decide +kernel)) rfl
theorem wc_X11_day : am_code mX11_day := am_tk4 (List.mem_of_getElem? (i := 188) (by decide +kernel)) rfl
theorem wc_X11_death : am_code mX11_death := am_tk5 (List.mem_of_getElem? (i := 30) (by decide +kernel)) rfl
theorem wc_X11_deed : am_code mX11_deed := am_tk6 (List.mem_of_getElem? (i := 10) (by decide +kernel)) rfl
theorem wc_X11_depth : am_code mX11_depth := am_tk5 (List.mem_of_getElem? (i := 108) (by decide +kernel)) rfl
theorem wc_X11_dress : am_code mX11_dress := am_tk6 (List.mem_of_getElem? (i := 37) (by decide +kernel)) rfl
theorem wc_X11_dye : am_code mX11_dye := am_tk6 (List.mem_of_getElem? (i := 65) (by decide +kernel)) rfl
theorem wc_X11_edge : am_code mX11_edge := am_tk5 (List.mem_of_getElem? (i := 230) (by decide +kernel)) rfl
theorem wc_X11_end : am_code mX11_end := am_tk3 (List.mem_of_getElem? (i := 33) (by decide +kernel)) rfl
theorem wc_X11_fault : am_code mX11_fault := am_tk4 (List.mem_of_getElem? (i := 89) (by decide +kernel)) rfl
theorem wc_X11_feed : am_code mX11_feed := am_tk3 (List.mem_of_getElem? (i := 21) (by decide +kernel)) rfl
theorem wc_X11_first : am_code mX11_first := am_tk6 (List.mem_of_getElem? (i := 33) (by decide +kernel)) rfl
theorem wc_X11_go : am_code mX11_go := am_tk4 (List.mem_of_getElem? (i := 211) (by decide +kernel)) rfl
theorem wc_X11_hands : am_code mX11_hands := am_tk6 (List.mem_of_getElem? (i := 61) (by decide +kernel)) rfl
theorem wc_X11_isAct : am_code mX11_isAct := am_tk6 (List.mem_of_getElem? (i := 2) (by decide +kernel)) rfl
theorem wc_X11_isChoice : am_code mX11_isChoice := am_tk6 (List.mem_of_getElem? (i := 25) (by decide +kernel)) rfl
theorem wc_X11_isPast : am_code mX11_isPast := am_tk5 (List.mem_of_getElem? (i := 1) (by decide +kernel)) rfl
theorem wc_X11_isPlanned : am_code mX11_isPlanned := am_tk6 (List.mem_of_getElem? (i := 98) (by decide +kernel)) rfl
theorem wc_X11_kin : am_code mX11_kin := am_tk5 (List.mem_of_getElem? (i := 67) (by decide +kernel)) rfl
theorem wc_X11_last : am_code mX11_last := am_tk5 (List.mem_of_getElem? (i := 220) (by decide +kernel)) rfl
theorem wc_X11_make : am_code mX11_make := am_tk6 (List.mem_of_getElem? (i := 81) (by decide +kernel)) rfl
theorem wc_X11_may : am_code mX11_may := am_tk5 (List.mem_of_getElem? (i := 239) (by decide +kernel)) rfl
theorem wc_X11_months : am_code mX11_months := am_tk4 (List.mem_of_getElem? (i := 201) (by decide +kernel)) rfl
theorem wc_X11_mourns : am_code mX11_mourns := am_tk5 (List.mem_of_getElem? (i := 93) (by decide +kernel)) rfl
theorem wc_X11_out : am_code mX11_out := am_tk4 (List.mem_of_getElem? (i := 148) (by decide +kernel)) rfl
theorem wc_X11_person : am_code mX11_person := am_tk4 (List.mem_of_getElem? (i := 237) (by decide +kernel)) rfl
theorem wc_X11_plan : am_code mX11_plan := am_tk6 (List.mem_of_getElem? (i := 94) (by decide +kernel)) rfl
theorem wc_X11_planned : am_code mX11_planned := am_tk6 (List.mem_of_getElem? (i := 170) (by decide +kernel)) rfl
theorem wc_X11_quarrel : am_code mX11_quarrel := am_tk4 (List.mem_of_getElem? (i := 156) (by decide +kernel)) rfl
theorem wc_X11_standing : am_code mX11_standing := am_tk6 (List.mem_of_getElem? (i := 18) (by decide +kernel)) rfl
theorem wc_X11_stands : am_code mX11_stands := am_tk6 (List.mem_of_getElem? (i := 14) (by decide +kernel)) rfl
theorem wc_X11_take : am_code mX11_take := am_tk3 (List.mem_of_getElem? (i := 37) (by decide +kernel)) rfl
theorem wc_X11_told : am_code mX11_told := am_tk6 (List.mem_of_getElem? (i := 183) (by decide +kernel)) rfl
theorem wc_X11_wed : am_code mX11_wed := am_tk5 (List.mem_of_getElem? (i := 43) (by decide +kernel)) rfl
theorem wc_X11_worn : am_code mX11_worn := am_tk6 (List.mem_of_getElem? (i := 178) (by decide +kernel)) rfl
theorem wc_X11_write : am_code mX11_write := am_tk4 (List.mem_of_getElem? (i := 93) (by decide +kernel)) rfl
theorem wc_X12_advances : am_code mX12_advances := am_tk9 (List.mem_of_getElem? (i := 93) (by decide +kernel)) rfl
theorem wc_X12_ahead : am_code mX12_ahead := am_tk8 (List.mem_of_getElem? (i := 82) (by decide +kernel)) rfl
theorem wc_X12_areAlike : am_code mX12_areAlike := am_tk10 (List.mem_of_getElem? (i := 219) (by decide +kernel)) rfl
theorem wc_X12_areOne : am_code mX12_areOne := am_tk10 (List.mem_of_getElem? (i := 215) (by decide +kernel)) rfl
theorem wc_X12_asks : am_code mX12_asks := am_tk9 (List.mem_of_getElem? (i := 178) (by decide +kernel)) rfl
theorem wc_X12_behind : am_code mX12_behind := am_tk8 (List.mem_of_getElem? (i := 103) (by decide +kernel)) rfl
theorem wc_X12_best : am_code mX12_best := am_tk9 (List.mem_of_getElem? (i := 143) (by decide +kernel)) rfl
theorem wc_X12_cloth : am_code mX12_cloth := am_tk9 (List.mem_of_getElem? (i := 162) (by decide +kernel)) rfl
theorem wc_X12_copies : am_code mX12_copies := am_tk8 (List.mem_of_getElem? (i := 206) (by decide +kernel)) rfl
theorem wc_X12_count : am_code mX12_count := am_tk10 (List.mem_of_getElem? (i := 231) (by decide +kernel)) rfl
theorem wc_X12_court : am_code mX12_court := am_tk9 (List.mem_of_getElem? (i := 2) (by decide +kernel)) rfl
theorem wc_X12_date : am_code mX12_date := am_tk8 (List.mem_of_getElem? (i := 62) (by decide +kernel)) rfl
theorem wc_X12_dateOf : am_code mX12_dateOf := am_tk8 (List.mem_of_getElem? (i := 73) (by decide +kernel)) rfl
theorem wc_X12_day : am_code mX12_day := am_tk8 (List.mem_of_getElem? (i := 95) (by decide +kernel)) rfl
theorem wc_X12_dayOf : am_code mX12_dayOf := am_tk8 (List.mem_of_getElem? (i := 79) (by decide +kernel)) rfl
theorem wc_X12_death : am_code mX12_death := am_tk8 (List.mem_of_getElem? (i := 234) (by decide +kernel)) rfl
theorem wc_X12_deed : am_code mX12_deed := am_tk9 (List.mem_of_getElem? (i := 135) (by decide +kernel)) rfl
theorem wc_X12_depth : am_code mX12_depth := am_tk9 (List.mem_of_getElem? (i := 53) (by decide +kernel)) rfl
theorem wc_X12_depthAt : am_code mX12_depthAt := am_tk9 (List.mem_of_getElem? (i := 57) (by decide +kernel)) rfl
theorem wc_X12_depthNow : am_code mX12_depthNow := am_tk9 (List.mem_of_getElem? (i := 97) (by decide +kernel)) rfl
theorem wc_X12_depthOf : am_code mX12_depthOf := am_tk9 (List.mem_of_getElem? (i := 89) (by decide +kernel)) rfl
theorem wc_X12_done : am_code mX12_done := am_tk8 (List.mem_of_getElem? (i := 222) (by decide +kernel)) rfl
theorem wc_X12_dress : am_code mX12_dress := am_tk9 (List.mem_of_getElem? (i := 151) (by decide +kernel)) rfl
theorem wc_X12_dye : am_code mX12_dye := am_tk9 (List.mem_of_getElem? (i := 170) (by decide +kernel)) rfl
theorem wc_X12_edge : am_code mX12_edge := am_tk9 (List.mem_of_getElem? (i := 116) (by decide +kernel)) rfl
theorem wc_X12_end : am_code mX12_end := am_tk8 (List.mem_of_getElem? (i := 115) (by decide +kernel)) rfl
theorem wc_X12_enters : am_code mX12_enters := am_tk9 (List.mem_of_getElem? (i := 69) (by decide +kernel)) rfl
theorem wc_X12_fault : am_code mX12_fault := am_tk8 (List.mem_of_getElem? (i := 210) (by decide +kernel)) rfl
theorem wc_X12_faults : am_code mX12_faults := am_tk8 (List.mem_of_getElem? (i := 137) (by decide +kernel)) rfl
theorem wc_X12_feast : am_code mX12_feast := am_tk8 (List.mem_of_getElem? (i := 191) (by decide +kernel)) rfl
theorem wc_X12_feastCap : am_code mX12_feastCap := am_tk9 (List.mem_of_getElem? (i := 101) (by decide +kernel)) rfl
theorem wc_X12_feed : am_code mX12_feed := am_tk8 (List.mem_of_getElem? (i := 107) (by decide +kernel)) rfl
theorem wc_X12_feeds : am_code mX12_feeds := am_tk8 (List.mem_of_getElem? (i := 111) (by decide +kernel)) rfl
theorem wc_X12_first : am_code mX12_first := am_tk9 (List.mem_of_getElem? (i := 147) (by decide +kernel)) rfl
theorem wc_X12_firstBegin : am_code mX12_firstBegin := am_tk9 (List.mem_of_getElem? (i := 80) (by decide +kernel)) rfl
theorem wc_X12_go : am_code mX12_go := am_tk8 (List.mem_of_getElem? (i := 214) (by decide +kernel)) rfl
theorem wc_X12_goesTo : am_code mX12_goesTo := am_tk9 (List.mem_of_getElem? (i := 76) (by decide +kernel)) rfl
theorem wc_X12_hands : am_code mX12_hands := am_tk9 (List.mem_of_getElem? (i := 166) (by decide +kernel)) rfl
theorem wc_X12_hasTask : am_code mX12_hasTask := am_tk9 (List.mem_of_getElem? (i := 174) (by decide +kernel)) rfl
theorem wc_X12_heirCap : am_code mX12_heirCap := am_tk9 (List.mem_of_getElem? (i := 105) (by decide +kernel)) rfl
theorem wc_X12_in : am_code mX12_in := am_tk8 (List.mem_of_getElem? (i := 70) (by decide +kernel)) rfl
theorem wc_X12_isAct : am_code mX12_isAct := am_tk9 (List.mem_of_getElem? (i := 123) (by decide +kernel)) rfl
theorem wc_X12_isAlive : am_code mX12_isAlive := am_tk9 (List.mem_of_getElem? (i := 61) (by decide +kernel)) rfl
theorem wc_X12_isDay : am_code mX12_isDay := am_tk8 (List.mem_of_getElem? (i := 65) (by decide +kernel)) rfl
theorem wc_X12_isDigit : am_code mX12_isDigit := am_tk8 (List.mem_of_getElem? (i := 133) (by decide +kernel)) rfl
theorem wc_X12_isInTime : am_code mX12_isInTime := am_tk9 (List.mem_of_getElem? (i := 202) (by decide +kernel)) rfl
theorem wc_X12_isKin : am_code mX12_isKin := am_tk9 (List.mem_of_getElem? (i := 18) (by decide +kernel)) rfl
theorem wc_X12_isKinBy : am_code mX12_isKinBy := am_tk9 (List.mem_of_getElem? (i := 10) (by decide +kernel)) rfl
theorem wc_X12_isKnownDay : am_code mX12_isKnownDay := am_tk9 (List.mem_of_getElem? (i := 41) (by decide +kernel)) rfl
theorem wc_X12_isLeap : am_code mX12_isLeap := am_tk8 (List.mem_of_getElem? (i := 88) (by decide +kernel)) rfl
theorem wc_X12_isLetter : am_code mX12_isLetter := am_tk8 (List.mem_of_getElem? (i := 130) (by decide +kernel)) rfl
theorem wc_X12_isMan : am_code mX12_isMan := am_tk9 (List.mem_of_getElem? (i := 21) (by decide +kernel)) rfl
theorem wc_X12_isParent : am_code mX12_isParent := am_tk9 (List.mem_of_getElem? (i := 29) (by decide +kernel)) rfl
theorem wc_X12_isPerson : am_code mX12_isPerson := am_tk8 (List.mem_of_getElem? (i := 230) (by decide +kernel)) rfl
theorem wc_X12_isRule : am_code mX12_isRule := am_tk9 (List.mem_of_getElem? (i := 222) (by decide +kernel)) rfl
theorem wc_X12_isSibling : am_code mX12_isSibling := am_tk9 (List.mem_of_getElem? (i := 33) (by decide +kernel)) rfl
theorem wc_X12_isSign : am_code mX12_isSign := am_tk8 (List.mem_of_getElem? (i := 165) (by decide +kernel)) rfl
theorem wc_X12_isSpouse : am_code mX12_isSpouse := am_tk9 (List.mem_of_getElem? (i := 25) (by decide +kernel)) rfl
theorem wc_X12_isStuff : am_code mX12_isStuff := am_tk9 (List.mem_of_getElem? (i := 154) (by decide +kernel)) rfl
theorem wc_X12_isThere : am_code mX12_isThere := am_tk9 (List.mem_of_getElem? (i := 14) (by decide +kernel)) rfl
theorem wc_X12_isWord : am_code mX12_isWord := am_tk8 (List.mem_of_getElem? (i := 142) (by decide +kernel)) rfl
theorem wc_X12_kin : am_code mX12_kin := am_tk9 (List.mem_of_getElem? (i := 6) (by decide +kernel)) rfl
theorem wc_X12_last : am_code mX12_last := am_tk9 (List.mem_of_getElem? (i := 111) (by decide +kernel)) rfl
theorem wc_X12_lawOf : am_code mX12_lawOf := am_tk9 (List.mem_of_getElem? (i := 49) (by decide +kernel)) rfl
theorem wc_X12_least : am_code mX12_least := am_tk9 (List.mem_of_getElem? (i := 210) (by decide +kernel)) rfl
theorem wc_X12_lengthOf : am_code mX12_lengthOf := am_tk8 (List.mem_of_getElem? (i := 85) (by decide +kernel)) rfl
theorem wc_X12_looks : am_code mX12_looks := am_tk9 (List.mem_of_getElem? (i := 198) (by decide +kernel)) rfl
theorem wc_X12_make : am_code mX12_make := am_tk9 (List.mem_of_getElem? (i := 182) (by decide +kernel)) rfl
theorem wc_X12_making : am_code mX12_making := am_tk9 (List.mem_of_getElem? (i := 158) (by decide +kernel)) rfl
theorem wc_X12_may : am_code mX12_may := am_tk9 (List.mem_of_getElem? (i := 120) (by decide +kernel)) rfl
theorem wc_X12_mayAt : am_code mX12_mayAt := am_tk9 (List.mem_of_getElem? (i := 127) (by decide +kernel)) rfl
theorem wc_X12_mayBe : am_code mX12_mayBe := am_tk9 (List.mem_of_getElem? (i := 131) (by decide +kernel)) rfl
theorem wc_X12_monthOf : am_code mX12_monthOf := am_tk8 (List.mem_of_getElem? (i := 91) (by decide +kernel)) rfl
theorem wc_X12_months : am_code mX12_months := am_tk8 (List.mem_of_getElem? (i := 100) (by decide +kernel)) rfl
theorem wc_X12_mourns : am_code mX12_mourns := am_tk9 (List.mem_of_getElem? (i := 37) (by decide +kernel)) rfl
theorem wc_X12_needs : am_code mX12_needs := am_tk8 (List.mem_of_getElem? (i := 177) (by decide +kernel)) rfl
theorem wc_X12_needs_ : am_code mX12_needs_ := am_tk8 (List.mem_of_getElem? (i := 186) (by decide +kernel)) rfl
theorem wc_X12_needs__ : am_code mX12_needs__ := am_tk8 (List.mem_of_getElem? (i := 161) (by decide +kernel)) rfl
theorem wc_X12_number : am_code mX12_number := am_tk8 (List.mem_of_getElem? (i := 173) (by decide +kernel)) rfl
theorem wc_X12_option : am_code mX12_option := am_tk8 (List.mem_of_getElem? (i := 181) (by decide +kernel)) rfl
theorem wc_X12_others : am_code mX12_others := am_tk8 (List.mem_of_getElem? (i := 196) (by decide +kernel)) rfl
theorem wc_X12_out : am_code mX12_out := am_tk10 (List.mem_of_getElem? (i := 207) (by decide +kernel)) rfl
theorem wc_X12_person : am_code mX12_person := am_tk8 (List.mem_of_getElem? (i := 226) (by decide +kernel)) rfl
theorem wc_X12_plan : am_code mX12_plan := am_tk9 (List.mem_of_getElem? (i := 186) (by decide +kernel)) rfl
theorem wc_X12_planned : am_code mX12_planned := am_tk9 (List.mem_of_getElem? (i := 214) (by decide +kernel)) rfl
theorem wc_X12_plans : am_code mX12_plans := am_tk9 (List.mem_of_getElem? (i := 190) (by decide +kernel)) rfl
theorem wc_X12_prepares : am_code mX12_prepares := am_tk9 (List.mem_of_getElem? (i := 65) (by decide +kernel)) rfl
theorem wc_X12_quarrel : am_code mX12_quarrel := am_tk10 (List.mem_of_getElem? (i := 211) (by decide +kernel)) rfl
theorem wc_X12_reached : am_code mX12_reached := am_tk9 (List.mem_of_getElem? (i := 72) (by decide +kernel)) rfl
theorem wc_X12_reads : am_code mX12_reads := am_tk8 (List.mem_of_getElem? (i := 123) (by decide +kernel)) rfl
theorem wc_X12_rule : am_code mX12_rule := am_tk8 (List.mem_of_getElem? (i := 148) (by decide +kernel)) rfl
theorem wc_X12_ruleFor : am_code mX12_ruleFor := am_tk9 (List.mem_of_getElem? (i := 45) (by decide +kernel)) rfl
theorem wc_X12_splits : am_code mX12_splits := am_tk8 (List.mem_of_getElem? (i := 127) (by decide +kernel)) rfl
theorem wc_X12_stage : am_code mX12_stage := am_tk8 (List.mem_of_getElem? (i := 169) (by decide +kernel)) rfl
theorem wc_X12_stands : am_code mX12_stands := am_tk9 (List.mem_of_getElem? (i := 139) (by decide +kernel)) rfl
theorem wc_X12_take : am_code mX12_take := am_tk8 (List.mem_of_getElem? (i := 119) (by decide +kernel)) rfl
theorem wc_X12_takes : am_code mX12_takes := am_tk9 (List.mem_of_getElem? (i := 206) (by decide +kernel)) rfl
theorem wc_X12_told : am_code mX12_told := am_tk10 (List.mem_of_getElem? (i := 227) (by decide +kernel)) rfl
theorem wc_X12_tries : am_code mX12_tries := am_tk9 (List.mem_of_getElem? (i := 194) (by decide +kernel)) rfl
theorem wc_X12_wed : am_code mX12_wed := am_tk8 (List.mem_of_getElem? (i := 238) (by decide +kernel)) rfl
theorem wc_X12_weds : am_code mX12_weds := am_tk9 (List.mem_of_getElem? (i := 85) (by decide +kernel)) rfl
theorem wc_X12_word : am_code mX12_word := am_tk8 (List.mem_of_getElem? (i := 152) (by decide +kernel)) rfl
theorem wc_X12_wordOf : am_code mX12_wordOf := am_tk8 (List.mem_of_getElem? (i := 156) (by decide +kernel)) rfl
theorem wc_X12_works : am_code mX12_works := am_tk8 (List.mem_of_getElem? (i := 218) (by decide +kernel)) rfl
theorem wc_X12_worn : am_code mX12_worn := am_tk10 (List.mem_of_getElem? (i := 223) (by decide +kernel)) rfl
theorem wc_X12_write : am_code mX12_write := am_tk9 (List.mem_of_getElem? (i := 218) (by decide +kernel)) rfl
theorem wc_X12_writes : am_code mX12_writes := am_tk9 (List.mem_of_getElem? (i := 230) (by decide +kernel)) rfl
theorem wc_X12_writesRule : am_code mX12_writesRule := am_tk9 (List.mem_of_getElem? (i := 226) (by decide +kernel)) rfl
theorem wc_X12_yearOf : am_code mX12_yearOf := am_tk8 (List.mem_of_getElem? (i := 76) (by decide +kernel)) rfl
theorem wc_X1_blankLaw : am_code mX1_blankLaw := am_tk3 (List.mem_of_getElem? (i := 41) (by decide +kernel)) rfl
theorem wc_X1_canOrder : am_code mX1_canOrder := am_tk5 (List.mem_of_getElem? (i := 59) (by decide +kernel)) rfl
theorem wc_X1_enact : am_code mX1_enact := am_tk4 (List.mem_of_getElem? (i := 84) (by decide +kernel)) rfl
theorem wc_X1_lawNumbered : am_code mX1_lawNumbered := am_tk4 (List.mem_of_getElem? (i := 97) (by decide +kernel)) rfl
theorem wc_X1_lawOn : am_code mX1_lawOn := am_tk5 (List.mem_of_getElem? (i := 101) (by decide +kernel)) rfl
theorem wc_X1_order : am_code mX1_order := am_tk5 (List.mem_of_getElem? (i := 63) (by decide +kernel)) rfl
theorem wc_X1_orderedDepth : am_code mX1_orderedDepth := am_tk5 (List.mem_of_getElem? (i := 210) (by decide +kernel)) rfl
theorem wc_X2_add : am_code mX2_add := am_tk5 (List.mem_of_getElem? (i := 17) (by decide +kernel)) rfl
theorem wc_X2_addChild : am_code mX2_addChild := am_tk5 (List.mem_of_getElem? (i := 26) (by decide +kernel)) rfl
theorem wc_X2_areAlive : am_code mX2_areAlive := am_tk6 (List.mem_of_getElem? (i := 108) (by decide +kernel)) rfl
theorem wc_X2_bury : am_code mX2_bury := am_tk5 (List.mem_of_getElem? (i := 39) (by decide +kernel)) rfl
theorem wc_X2_canBeParent : am_code mX2_canBeParent := am_tk5 (List.mem_of_getElem? (i := 9) (by decide +kernel)) rfl
theorem wc_X2_canMarry : am_code mX2_canMarry := am_tk5 (List.mem_of_getElem? (i := 47) (by decide +kernel)) rfl
theorem wc_X2_factOf : am_code mX2_factOf := am_tk6 (List.mem_of_getElem? (i := 187) (by decide +kernel)) rfl
theorem wc_X2_gather : am_code mX2_gather := am_tk5 (List.mem_of_getElem? (i := 71) (by decide +kernel)) rfl
theorem wc_X2_has : am_code mX2_has := am_tk5 (List.mem_of_getElem? (i := 13) (by decide +kernel)) rfl
theorem wc_X2_hasChildBorn : am_code mX2_hasChildBorn := am_tk5 (List.mem_of_getElem? (i := 206) (by decide +kernel)) rfl
theorem wc_X2_hasPlaceFor : am_code mX2_hasPlaceFor := am_tk5 (List.mem_of_getElem? (i := 5) (by decide +kernel)) rfl
theorem wc_X2_isKin : am_code mX2_isKin := am_tk5 (List.mem_of_getElem? (i := 75) (by decide +kernel)) rfl
theorem wc_X2_isMan : am_code mX2_isMan := am_tk5 (List.mem_of_getElem? (i := 22) (by decide +kernel)) rfl
theorem wc_X2_isToldDead : am_code mX2_isToldDead := am_tk5 (List.mem_of_getElem? (i := 35) (by decide +kernel)) rfl
theorem wc_X2_kinOf : am_code mX2_kinOf := am_tk5 (List.mem_of_getElem? (i := 85) (by decide +kernel)) rfl
theorem wc_X2_marry : am_code mX2_marry := am_tk5 (List.mem_of_getElem? (i := 51) (by decide +kernel)) rfl
theorem wc_X2_nextWedding : am_code mX2_nextWedding := am_tk5 (List.mem_of_getElem? (i := 157) (by decide +kernel)) rfl
theorem wc_X2_relativesOf : am_code mX2_relativesOf := am_tk5 (List.mem_of_getElem? (i := 89) (by decide +kernel)) rfl
theorem wc_X3_addFeast : am_code mX3_addFeast := am_tk4 (List.mem_of_getElem? (i := 68) (by decide +kernel)) rfl
theorem wc_X3_addKin : am_code mX3_addKin := am_tk3 (List.mem_of_getElem? (i := 226) (by decide +kernel)) rfl
theorem wc_X3_addOption : am_code mX3_addOption := am_tk4 (List.mem_of_getElem? (i := 35) (by decide +kernel)) rfl
theorem wc_X3_addPart : am_code mX3_addPart := am_tk4 (List.mem_of_getElem? (i := 24) (by decide +kernel)) rfl
theorem wc_X3_clear : am_code mX3_clear := am_tk3 (List.mem_of_getElem? (i := 49) (by decide +kernel)) rfl
theorem wc_X3_endOfPart : am_code mX3_endOfPart := am_tk5 (List.mem_of_getElem? (i := 134) (by decide +kernel)) rfl
theorem wc_X3_hasOption : am_code mX3_hasOption := am_tk4 (List.mem_of_getElem? (i := 141) (by decide +kernel)) rfl
theorem wc_X3_hasRoomForFeast : am_code mX3_hasRoomForFeast := am_tk4 (List.mem_of_getElem? (i := 61) (by decide +kernel)) rfl
theorem wc_X3_hasRoomForPart : am_code mX3_hasRoomForPart := am_tk4 (List.mem_of_getElem? (i := 1) (by decide +kernel)) rfl
theorem wc_X3_hasRoomForRule : am_code mX3_hasRoomForRule := am_tk3 (List.mem_of_getElem? (i := 211) (by decide +kernel)) rfl
theorem wc_X3_hasRule : am_code mX3_hasRule := am_tk4 (List.mem_of_getElem? (i := 101) (by decide +kernel)) rfl
theorem wc_X3_isLighter : am_code mX3_isLighter := am_tk4 (List.mem_of_getElem? (i := 9) (by decide +kernel)) rfl
theorem wc_X3_isSameKin : am_code mX3_isSameKin := am_tk4 (List.mem_of_getElem? (i := 164) (by decide +kernel)) rfl
theorem wc_X3_isSameOtherwise : am_code mX3_isSameOtherwise := am_tk4 (List.mem_of_getElem? (i := 168) (by decide +kernel)) rfl
theorem wc_X3_kinCount : am_code mX3_kinCount := am_tk5 (List.mem_of_getElem? (i := 80) (by decide +kernel)) rfl
theorem wc_X3_kinWord : am_code mX3_kinWord := am_tk4 (List.mem_of_getElem? (i := 131) (by decide +kernel)) rfl
theorem wc_X3_onFeasts : am_code mX3_onFeasts := am_tk5 (List.mem_of_getElem? (i := 201) (by decide +kernel)) rfl
theorem wc_X3_openRule : am_code mX3_openRule := am_tk3 (List.mem_of_getElem? (i := 215) (by decide +kernel)) rfl
theorem wc_X3_partCount : am_code mX3_partCount := am_tk5 (List.mem_of_getElem? (i := 130) (by decide +kernel)) rfl
theorem wc_X3_partDepth : am_code mX3_partDepth := am_tk5 (List.mem_of_getElem? (i := 139) (by decide +kernel)) rfl
theorem wc_X3_quarrelNumbered : am_code mX3_quarrelNumbered := am_tk4 (List.mem_of_getElem? (i := 160) (by decide +kernel)) rfl
theorem wc_X3_spell : am_code mX3_spell := am_tk4 (List.mem_of_getElem? (i := 105) (by decide +kernel)) rfl
theorem wc_X4_depthOn : am_code mX4_depthOn := am_tk5 (List.mem_of_getElem? (i := 170) (by decide +kernel)) rfl
theorem wc_X4_edgeOn : am_code mX4_edgeOn := am_tk5 (List.mem_of_getElem? (i := 234) (by decide +kernel)) rfl
theorem wc_X4_endByWedding : am_code mX4_endByWedding := am_tk5 (List.mem_of_getElem? (i := 191) (by decide +kernel)) rfl
theorem wc_X4_isAllowed : am_code mX4_isAllowed := am_tk6 (List.mem_of_getElem? (i := 6) (by decide +kernel)) rfl
theorem wc_X4_isTooYoung : am_code mX4_isTooYoung := am_tk5 (List.mem_of_getElem? (i := 215) (by decide +kernel)) rfl
theorem wc_X4_lastDayFor : am_code mX4_lastDayFor := am_tk5 (List.mem_of_getElem? (i := 224) (by decide +kernel)) rfl
theorem wc_X4_lightened : am_code mX4_lightened := am_tk5 (List.mem_of_getElem? (i := 196) (by decide +kernel)) rfl
theorem wc_X4_lookAhead : am_code mX4_lookAhead := am_tk5 (List.mem_of_getElem? (i := 144) (by decide +kernel)) rfl
theorem wc_X4_moveTo : am_code mX4_moveTo := am_tk5 (List.mem_of_getElem? (i := 174) (by decide +kernel)) rfl
theorem wc_X4_passDays : am_code mX4_passDays := am_tk5 (List.mem_of_getElem? (i := 179) (by decide +kernel)) rfl
theorem wc_X4_ruleFor : am_code mX4_ruleFor := am_tk5 (List.mem_of_getElem? (i := 97) (by decide +kernel)) rfl
theorem wc_X4_startMourning : am_code mX4_startMourning := am_tk5 (List.mem_of_getElem? (i := 117) (by decide +kernel)) rfl
theorem wc_X4_study : am_code mX4_study := am_tk5 (List.mem_of_getElem? (i := 112) (by decide +kernel)) rfl
theorem wc_X5_depthNow : am_code mX5_depthNow := am_tk5 (List.mem_of_getElem? (i := 152) (by decide +kernel)) rfl
theorem wc_X5_finish : am_code mX5_finish := am_tk5 (List.mem_of_getElem? (i := 187) (by decide +kernel)) rfl
theorem wc_X5_goesOn : am_code mX5_goesOn := am_tk5 (List.mem_of_getElem? (i := 162) (by decide +kernel)) rfl
theorem wc_X5_isOn : am_code mX5_isOn := am_tk5 (List.mem_of_getElem? (i := 148) (by decide +kernel)) rfl
theorem wc_X5_leftInPart : am_code mX5_leftInPart := am_tk5 (List.mem_of_getElem? (i := 166) (by decide +kernel)) rfl
theorem wc_X5_pass : am_code mX5_pass := am_tk5 (List.mem_of_getElem? (i := 183) (by decide +kernel)) rfl
theorem wc_X5_start : am_code mX5_start := am_tk5 (List.mem_of_getElem? (i := 124) (by decide +kernel)) rfl
theorem wc_X6_add : am_code mX6_add := am_tk4 (List.mem_of_getElem? (i := 118) (by decide +kernel)) rfl
theorem wc_X6_addByte : am_code mX6_addByte := am_tk4 (List.mem_of_getElem? (i := 124) (by decide +kernel)) rfl
theorem wc_X6_addNumber : am_code mX6_addNumber := am_tk4 (List.mem_of_getElem? (i := 137) (by decide +kernel)) rfl
theorem wc_X6_addWord : am_code mX6_addWord := am_tk4 (List.mem_of_getElem? (i := 113) (by decide +kernel)) rfl
theorem wc_X6_clear : am_code mX6_clear := am_tk4 (List.mem_of_getElem? (i := 109) (by decide +kernel)) rfl
theorem wc_X6_has : am_code mX6_has := am_tk4 (List.mem_of_getElem? (i := 152) (by decide +kernel)) rfl
theorem wc_X7_add : am_code mX7_add := am_tk6 (List.mem_of_getElem? (i := 117) (by decide +kernel)) rfl
theorem wc_X7_choose : am_code mX7_choose := am_tk6 (List.mem_of_getElem? (i := 134) (by decide +kernel)) rfl
theorem wc_X7_dressOf : am_code mX7_dressOf := am_tk6 (List.mem_of_getElem? (i := 174) (by decide +kernel)) rfl
theorem wc_X7_dyeDarker : am_code mX7_dyeDarker := am_tk6 (List.mem_of_getElem? (i := 158) (by decide +kernel)) rfl
theorem wc_X7_freeHand : am_code mX7_freeHand := am_tk6 (List.mem_of_getElem? (i := 130) (by decide +kernel)) rfl
theorem wc_X7_isInTime : am_code mX7_isInTime := am_tk6 (List.mem_of_getElem? (i := 146) (by decide +kernel)) rfl
theorem wc_X7_keep : am_code mX7_keep := am_tk6 (List.mem_of_getElem? (i := 138) (by decide +kernel)) rfl
theorem wc_X7_open : am_code mX7_open := am_tk6 (List.mem_of_getElem? (i := 113) (by decide +kernel)) rfl
theorem wc_X7_pick : am_code mX7_pick := am_tk6 (List.mem_of_getElem? (i := 142) (by decide +kernel)) rfl
theorem wc_X7_sew : am_code mX7_sew := am_tk6 (List.mem_of_getElem? (i := 162) (by decide +kernel)) rfl
theorem wc_X7_solve : am_code mX7_solve := am_tk6 (List.mem_of_getElem? (i := 121) (by decide +kernel)) rfl
theorem wc_X7_takeHands : am_code mX7_takeHands := am_tk6 (List.mem_of_getElem? (i := 126) (by decide +kernel)) rfl
theorem wc_X7_wayOf : am_code mX7_wayOf := am_tk6 (List.mem_of_getElem? (i := 166) (by decide +kernel)) rfl
theorem wc_X7_wear : am_code mX7_wear := am_tk6 (List.mem_of_getElem? (i := 150) (by decide +kernel)) rfl
theorem wc_X8_append : am_code mX8_append := am_tk3 (List.mem_of_getElem? (i := 29) (by decide +kernel)) rfl
theorem wc_X8_codeAt : am_code mX8_codeAt := am_tk3 (List.mem_of_getElem? (i := 203) (by decide +kernel)) rfl
theorem wc_X8_depthAt : am_code mX8_depthAt := am_tk4 (List.mem_of_getElem? (i := 5) (by decide +kernel)) rfl
theorem wc_X8_endOfToken : am_code mX8_endOfToken := am_tk3 (List.mem_of_getElem? (i := 61) (by decide +kernel)) rfl
theorem wc_X8_expect : am_code mX8_expect := am_tk4 (List.mem_of_getElem? (i := 39) (by decide +kernel)) rfl
theorem wc_X8_expectNumber : am_code mX8_expectNumber := am_tk4 (List.mem_of_getElem? (i := 13) (by decide +kernel)) rfl
theorem wc_X8_expectStuff : am_code mX8_expectStuff := am_tk4 (List.mem_of_getElem? (i := 50) (by decide +kernel)) rfl
theorem wc_X8_fail : am_code mX8_fail := am_tk3 (List.mem_of_getElem? (i := 199) (by decide +kernel)) rfl
theorem wc_X8_findTokens : am_code mX8_findTokens := am_tk3 (List.mem_of_getElem? (i := 57) (by decide +kernel)) rfl
theorem wc_X8_hasRoom : am_code mX8_hasRoom := am_tk3 (List.mem_of_getElem? (i := 25) (by decide +kernel)) rfl
theorem wc_X8_isDigit : am_code mX8_isDigit := am_tk3 (List.mem_of_getElem? (i := 67) (by decide +kernel)) rfl
theorem wc_X8_isLetter : am_code mX8_isLetter := am_tk3 (List.mem_of_getElem? (i := 64) (by decide +kernel)) rfl
theorem wc_X8_keepToken : am_code mX8_keepToken := am_tk3 (List.mem_of_getElem? (i := 184) (by decide +kernel)) rfl
theorem wc_X8_kindOf : am_code mX8_kindOf := am_tk3 (List.mem_of_getElem? (i := 71) (by decide +kernel)) rfl
theorem wc_X8_readFeast : am_code mX8_readFeast := am_tk4 (List.mem_of_getElem? (i := 57) (by decide +kernel)) rfl
theorem wc_X8_readHeir : am_code mX8_readHeir := am_tk4 (List.mem_of_getElem? (i := 72) (by decide +kernel)) rfl
theorem wc_X8_readInto : am_code mX8_readInto := am_tk3 (List.mem_of_getElem? (i := 45) (by decide +kernel)) rfl
theorem wc_X8_readKin : am_code mX8_readKin := am_tk3 (List.mem_of_getElem? (i := 219) (by decide +kernel)) rfl
theorem wc_X8_readLine : am_code mX8_readLine := am_tk3 (List.mem_of_getElem? (i := 53) (by decide +kernel)) rfl
theorem wc_X8_readMay : am_code mX8_readMay := am_tk4 (List.mem_of_getElem? (i := 43) (by decide +kernel)) rfl
theorem wc_X8_readOptions : am_code mX8_readOptions := am_tk4 (List.mem_of_getElem? (i := 28) (by decide +kernel)) rfl
theorem wc_X8_readPart : am_code mX8_readPart := am_tk3 (List.mem_of_getElem? (i := 234) (by decide +kernel)) rfl
theorem wc_X8_readParts : am_code mX8_readParts := am_tk3 (List.mem_of_getElem? (i := 230) (by decide +kernel)) rfl
theorem wc_X8_readRule : am_code mX8_readRule := am_tk3 (List.mem_of_getElem? (i := 207) (by decide +kernel)) rfl
theorem wc_X8_readUnder : am_code mX8_readUnder := am_tk4 (List.mem_of_getElem? (i := 76) (by decide +kernel)) rfl
theorem wc_X8_readWedding : am_code mX8_readWedding := am_tk4 (List.mem_of_getElem? (i := 80) (by decide +kernel)) rfl
theorem wc_X8_value : am_code mX8_value := am_tk4 (List.mem_of_getElem? (i := 17) (by decide +kernel)) rfl
theorem wc_X8_valueOf : am_code mX8_valueOf := am_tk3 (List.mem_of_getElem? (i := 188) (by decide +kernel)) rfl
theorem wc_X9_addTask : am_code mX9_addTask := am_tk6 (List.mem_of_getElem? (i := 77) (by decide +kernel)) rfl
theorem wc_X9_bring : am_code mX9_bring := am_tk4 (List.mem_of_getElem? (i := 225) (by decide +kernel)) rfl
theorem wc_X9_canBe : am_code mX9_canBe := am_tk6 (List.mem_of_getElem? (i := 44) (by decide +kernel)) rfl
theorem wc_X9_canDye : am_code mX9_canDye := am_tk6 (List.mem_of_getElem? (i := 69) (by decide +kernel)) rfl
theorem wc_X9_canHang : am_code mX9_canHang := am_tk6 (List.mem_of_getElem? (i := 41) (by decide +kernel)) rfl
theorem wc_X9_canMake : am_code mX9_canMake := am_tk6 (List.mem_of_getElem? (i := 85) (by decide +kernel)) rfl
theorem wc_X9_canStore : am_code mX9_canStore := am_tk6 (List.mem_of_getElem? (i := 53) (by decide +kernel)) rfl
theorem wc_X9_clearDone : am_code mX9_clearDone := am_tk4 (List.mem_of_getElem? (i := 221) (by decide +kernel)) rfl
theorem wc_X9_clothsOf : am_code mX9_clothsOf := am_tk6 (List.mem_of_getElem? (i := 196) (by decide +kernel)) rfl
theorem wc_X9_hang : am_code mX9_hang := am_tk4 (List.mem_of_getElem? (i := 233) (by decide +kernel)) rfl
theorem wc_X9_has : am_code mX9_has := am_tk4 (List.mem_of_getElem? (i := 229) (by decide +kernel)) rfl
theorem wc_X9_leastDress : am_code mX9_leastDress := am_tk6 (List.mem_of_getElem? (i := 154) (by decide +kernel)) rfl
theorem wc_X9_startDye : am_code mX9_startDye := am_tk6 (List.mem_of_getElem? (i := 73) (by decide +kernel)) rfl
theorem wc_X9_startMake : am_code mX9_startMake := am_tk6 (List.mem_of_getElem? (i := 90) (by decide +kernel)) rfl
theorem wc_X9_store : am_code mX9_store := am_tk6 (List.mem_of_getElem? (i := 57) (by decide +kernel)) rfl
theorem wc_X9_work : am_code mX9_work := am_tk4 (List.mem_of_getElem? (i := 217) (by decide +kernel)) rfl
theorem ds_J0_charAt_5068e : am_ds mJ0_charAt_5068e 1 := ⟨by decide, by decide, by decide +kernel⟩
theorem ds_J0_length_8abf5 : am_ds mJ0_length_8abf5 0 := ⟨by decide, by decide, by decide +kernel⟩
theorem ds_J6_bitCount_0f7a4 : am_ds mJ6_bitCount_0f7a4 1 := ⟨by decide, by decide, by decide +kernel⟩
theorem ds_X0_dateOf : am_ds mX0_dateOf 1 := ⟨by decide, by decide, by decide +kernel⟩
theorem ds_X0_dayOf : am_ds mX0_dayOf 3 := ⟨by decide, by decide, by decide +kernel⟩
theorem ds_X0_has : am_ds mX0_has 1 := ⟨by decide, by decide, by decide +kernel⟩
theorem ds_X0_hasDate : am_ds mX0_hasDate 1 := ⟨by decide, by decide, by decide +kernel⟩
theorem ds_X0_later : am_ds mX0_later 2 := ⟨by decide, by decide, by decide +kernel⟩
theorem ds_X0_lengthOf : am_ds mX0_lengthOf 2 := ⟨by decide, by decide, by decide +kernel⟩
theorem ds_X10_codeOf : am_ds mX10_codeOf 3 := ⟨by decide, by decide, by decide +kernel⟩
theorem ds_X10_isAct : am_ds mX10_isAct 1 := ⟨by decide, by decide, by decide +kernel⟩
theorem ds_X10_isAt : am_ds mX10_isAt 4 := ⟨by decide, by decide, by decide +kernel⟩
theorem ds_X10_isKin : am_ds mX10_isKin 1 := ⟨by decide, by decide, by decide +kernel⟩
theorem ds_X10_isMourning : am_ds mX10_isMourning 1 := ⟨by decide, by decide, by decide +kernel⟩
theorem ds_X10_isOption : am_ds mX10_isOption 1 := ⟨by decide, by decide, by decide +kernel⟩
theorem ds_X10_isStuff : am_ds mX10_isStuff 1 := ⟨by decide, by decide, by decide +kernel⟩
theorem ds_X10_isUnit : am_ds mX10_isUnit 1 := ⟨by decide, by decide, by decide +kernel⟩
theorem ds_X10_kinOrColour : am_ds mX10_kinOrColour 1 := ⟨by decide, by decide, by decide +kernel⟩
theorem ds_X10_lineWord : am_ds mX10_lineWord 1 := ⟨by decide, by decide, by decide +kernel⟩
theorem ds_X10_nameOf : am_ds mX10_nameOf 1 := ⟨by decide, by decide, by decide +kernel⟩
theorem ds_X10_signOf : am_ds mX10_signOf 1 := ⟨by decide, by decide, by decide +kernel⟩
theorem ds_X10_termOrOption : am_ds mX10_termOrOption 1 := ⟨by decide, by decide, by decide +kernel⟩
theorem ds_X11_best : am_ds mX11_best 4 := ⟨by decide, by decide, by decide +kernel⟩
theorem ds_X11_cloth : am_ds mX11_cloth 2 := ⟨by decide, by decide, by decide +kernel⟩
theorem ds_X11_count : am_ds mX11_count 1 := ⟨by decide, by decide, by decide +kernel⟩
theorem ds_X11_countAllowed : am_ds mX11_countAllowed 3 := ⟨by decide, by decide, by decide +kernel⟩
theorem ds_X11_court : am_ds mX11_court 3 := ⟨by decide, by decide, by decide +kernel⟩
theorem ds_X11_date : am_ds mX11_date 1 := ⟨by decide, by decide, by decide +kernel⟩
theorem ds_X11_day : am_ds mX11_day 1 := ⟨by decide, by decide, by decide +kernel⟩
theorem ds_X11_death : am_ds mX11_death 2 := ⟨by decide, by decide, by decide +kernel⟩
theorem ds_X11_deed : am_ds mX11_deed 2 := ⟨by decide, by decide, by decide +kernel⟩
theorem ds_X11_depth : am_ds mX11_depth 3 := ⟨by decide, by decide, by decide +kernel⟩
theorem ds_X11_dress : am_ds mX11_dress 2 := ⟨by decide, by decide, by decide +kernel⟩
theorem ds_X11_dye : am_ds mX11_dye 2 := ⟨by decide, by decide, by decide +kernel⟩
theorem ds_X11_edge : am_ds mX11_edge 2 := ⟨by decide, by decide, by decide +kernel⟩
theorem ds_X11_end : am_ds mX11_end 1 := ⟨by decide, by decide, by decide +kernel⟩
theorem ds_X11_fault : am_ds mX11_fault 1 := ⟨by decide, by decide, by decide +kernel⟩
theorem ds_X11_feed : am_ds mX11_feed 5 := ⟨by decide, by decide, by decide +kernel⟩
theorem ds_X11_first : am_ds mX11_first 3 := ⟨by decide, by decide, by decide +kernel⟩
theorem ds_X11_go : am_ds mX11_go 1 := ⟨by decide, by decide, by decide +kernel⟩
theorem ds_X11_hands : am_ds mX11_hands 1 := ⟨by decide, by decide, by decide +kernel⟩
theorem ds_X11_isAct : am_ds mX11_isAct 1 := ⟨by decide, by decide, by decide +kernel⟩
theorem ds_X11_isChoice : am_ds mX11_isChoice 2 := ⟨by decide, by decide, by decide +kernel⟩
theorem ds_X11_isPast : am_ds mX11_isPast 1 := ⟨by decide, by decide, by decide +kernel⟩
theorem ds_X11_isPlanned : am_ds mX11_isPlanned 3 := ⟨by decide, by decide, by decide +kernel⟩
theorem ds_X11_kin : am_ds mX11_kin 4 := ⟨by decide, by decide, by decide +kernel⟩
theorem ds_X11_last : am_ds mX11_last 2 := ⟨by decide, by decide, by decide +kernel⟩
theorem ds_X11_make : am_ds mX11_make 2 := ⟨by decide, by decide, by decide +kernel⟩
theorem ds_X11_may : am_ds mX11_may 4 := ⟨by decide, by decide, by decide +kernel⟩
theorem ds_X11_months : am_ds mX11_months 2 := ⟨by decide, by decide, by decide +kernel⟩
theorem ds_X11_mourns : am_ds mX11_mourns 3 := ⟨by decide, by decide, by decide +kernel⟩
theorem ds_X11_out : am_ds mX11_out 1 := ⟨by decide, by decide, by decide +kernel⟩
theorem ds_X11_person : am_ds mX11_person 4 := ⟨by decide, by decide, by decide +kernel⟩
theorem ds_X11_plan : am_ds mX11_plan 3 := ⟨by decide, by decide, by decide +kernel⟩
theorem ds_X11_planned : am_ds mX11_planned 3 := ⟨by decide, by decide, by decide +kernel⟩
theorem ds_X11_quarrel : am_ds mX11_quarrel 2 := ⟨by decide, by decide, by decide +kernel⟩
theorem ds_X11_standing : am_ds mX11_standing 1 := ⟨by decide, by decide, by decide +kernel⟩
theorem ds_X11_stands : am_ds mX11_stands 2 := ⟨by decide, by decide, by decide +kernel⟩
theorem ds_X11_take : am_ds mX11_take 0 := ⟨by decide, by decide, by decide +kernel⟩
theorem ds_X11_told : am_ds mX11_told 2 := ⟨by decide, by decide, by decide +kernel⟩
theorem ds_X11_wed : am_ds mX11_wed 3 := ⟨by decide, by decide, by decide +kernel⟩
theorem ds_X11_worn : am_ds mX11_worn 2 := ⟨by decide, by decide, by decide +kernel⟩
theorem ds_X11_write : am_ds mX11_write 2 := ⟨by decide, by decide, by decide +kernel⟩
theorem ds_X12_advances : am_ds mX12_advances 1 := ⟨by decide, by decide, by decide +kernel⟩
theorem ds_X12_ahead : am_ds mX12_ahead 1 := ⟨by decide, by decide, by decide +kernel⟩
theorem ds_X12_areAlike : am_ds mX12_areAlike 3 := ⟨by decide, by decide, by decide +kernel⟩
theorem ds_X12_areOne : am_ds mX12_areOne 3 := ⟨by decide, by decide, by decide +kernel⟩
theorem ds_X12_asks : am_ds mX12_asks 4 := ⟨by decide, by decide, by decide +kernel⟩
theorem ds_X12_behind : am_ds mX12_behind 2 := ⟨by decide, by decide, by decide +kernel⟩
theorem ds_X12_best : am_ds mX12_best 4 := ⟨by decide, by decide, by decide +kernel⟩
theorem ds_X12_cloth : am_ds mX12_cloth 2 := ⟨by decide, by decide, by decide +kernel⟩
theorem ds_X12_copies : am_ds mX12_copies 1 := ⟨by decide, by decide, by decide +kernel⟩
theorem ds_X12_count : am_ds mX12_count 1 := ⟨by decide, by decide, by decide +kernel⟩
theorem ds_X12_court : am_ds mX12_court 3 := ⟨by decide, by decide, by decide +kernel⟩
theorem ds_X12_date : am_ds mX12_date 1 := ⟨by decide, by decide, by decide +kernel⟩
theorem ds_X12_dateOf : am_ds mX12_dateOf 1 := ⟨by decide, by decide, by decide +kernel⟩
theorem ds_X12_day : am_ds mX12_day 1 := ⟨by decide, by decide, by decide +kernel⟩
theorem ds_X12_dayOf : am_ds mX12_dayOf 3 := ⟨by decide, by decide, by decide +kernel⟩
theorem ds_X12_death : am_ds mX12_death 2 := ⟨by decide, by decide, by decide +kernel⟩
theorem ds_X12_deed : am_ds mX12_deed 2 := ⟨by decide, by decide, by decide +kernel⟩
theorem ds_X12_depth : am_ds mX12_depth 3 := ⟨by decide, by decide, by decide +kernel⟩
theorem ds_X12_depthAt : am_ds mX12_depthAt 3 := ⟨by decide, by decide, by decide +kernel⟩
theorem ds_X12_depthNow : am_ds mX12_depthNow 1 := ⟨by decide, by decide, by decide +kernel⟩
theorem ds_X12_depthOf : am_ds mX12_depthOf 2 := ⟨by decide, by decide, by decide +kernel⟩
theorem ds_X12_done : am_ds mX12_done 1 := ⟨by decide, by decide, by decide +kernel⟩
theorem ds_X12_dress : am_ds mX12_dress 2 := ⟨by decide, by decide, by decide +kernel⟩
theorem ds_X12_dye : am_ds mX12_dye 2 := ⟨by decide, by decide, by decide +kernel⟩
theorem ds_X12_edge : am_ds mX12_edge 2 := ⟨by decide, by decide, by decide +kernel⟩
theorem ds_X12_end : am_ds mX12_end 1 := ⟨by decide, by decide, by decide +kernel⟩
theorem ds_X12_enters : am_ds mX12_enters 4 := ⟨by decide, by decide, by decide +kernel⟩
theorem ds_X12_fault : am_ds mX12_fault 1 := ⟨by decide, by decide, by decide +kernel⟩
theorem ds_X12_faults : am_ds mX12_faults 2 := ⟨by decide, by decide, by decide +kernel⟩
theorem ds_X12_feast : am_ds mX12_feast 0 := ⟨by decide, by decide, by decide +kernel⟩
theorem ds_X12_feastCap : am_ds mX12_feastCap 2 := ⟨by decide, by decide, by decide +kernel⟩
theorem ds_X12_feed : am_ds mX12_feed 5 := ⟨by decide, by decide, by decide +kernel⟩
theorem ds_X12_feeds : am_ds mX12_feeds 1 := ⟨by decide, by decide, by decide +kernel⟩
theorem ds_X12_first : am_ds mX12_first 3 := ⟨by decide, by decide, by decide +kernel⟩
theorem ds_X12_firstBegin : am_ds mX12_firstBegin 0 := ⟨by decide, by decide, by decide +kernel⟩
theorem ds_X12_go : am_ds mX12_go 1 := ⟨by decide, by decide, by decide +kernel⟩
theorem ds_X12_goesTo : am_ds mX12_goesTo 1 := ⟨by decide, by decide, by decide +kernel⟩
theorem ds_X12_hands : am_ds mX12_hands 1 := ⟨by decide, by decide, by decide +kernel⟩
theorem ds_X12_hasTask : am_ds mX12_hasTask 1 := ⟨by decide, by decide, by decide +kernel⟩
theorem ds_X12_heirCap : am_ds mX12_heirCap 3 := ⟨by decide, by decide, by decide +kernel⟩
theorem ds_X12_in : am_ds mX12_in 3 := ⟨by decide, by decide, by decide +kernel⟩
theorem ds_X12_isAct : am_ds mX12_isAct 1 := ⟨by decide, by decide, by decide +kernel⟩
theorem ds_X12_isAlive : am_ds mX12_isAlive 3 := ⟨by decide, by decide, by decide +kernel⟩
theorem ds_X12_isDay : am_ds mX12_isDay 1 := ⟨by decide, by decide, by decide +kernel⟩
theorem ds_X12_isDigit : am_ds mX12_isDigit 1 := ⟨by decide, by decide, by decide +kernel⟩
theorem ds_X12_isInTime : am_ds mX12_isInTime 0 := ⟨by decide, by decide, by decide +kernel⟩
theorem ds_X12_isKin : am_ds mX12_isKin 5 := ⟨by decide, by decide, by decide +kernel⟩
theorem ds_X12_isKinBy : am_ds mX12_isKinBy 6 := ⟨by decide, by decide, by decide +kernel⟩
theorem ds_X12_isKnownDay : am_ds mX12_isKnownDay 1 := ⟨by decide, by decide, by decide +kernel⟩
theorem ds_X12_isLeap : am_ds mX12_isLeap 1 := ⟨by decide, by decide, by decide +kernel⟩
theorem ds_X12_isLetter : am_ds mX12_isLetter 1 := ⟨by decide, by decide, by decide +kernel⟩
theorem ds_X12_isMan : am_ds mX12_isMan 1 := ⟨by decide, by decide, by decide +kernel⟩
theorem ds_X12_isParent : am_ds mX12_isParent 2 := ⟨by decide, by decide, by decide +kernel⟩
theorem ds_X12_isPerson : am_ds mX12_isPerson 1 := ⟨by decide, by decide, by decide +kernel⟩
theorem ds_X12_isRule : am_ds mX12_isRule 2 := ⟨by decide, by decide, by decide +kernel⟩
theorem ds_X12_isSibling : am_ds mX12_isSibling 2 := ⟨by decide, by decide, by decide +kernel⟩
theorem ds_X12_isSign : am_ds mX12_isSign 1 := ⟨by decide, by decide, by decide +kernel⟩
theorem ds_X12_isSpouse : am_ds mX12_isSpouse 4 := ⟨by decide, by decide, by decide +kernel⟩
theorem ds_X12_isStuff : am_ds mX12_isStuff 1 := ⟨by decide, by decide, by decide +kernel⟩
theorem ds_X12_isThere : am_ds mX12_isThere 2 := ⟨by decide, by decide, by decide +kernel⟩
theorem ds_X12_isWord : am_ds mX12_isWord 1 := ⟨by decide, by decide, by decide +kernel⟩
theorem ds_X12_kin : am_ds mX12_kin 4 := ⟨by decide, by decide, by decide +kernel⟩
theorem ds_X12_last : am_ds mX12_last 2 := ⟨by decide, by decide, by decide +kernel⟩
theorem ds_X12_lawOf : am_ds mX12_lawOf 2 := ⟨by decide, by decide, by decide +kernel⟩
theorem ds_X12_least : am_ds mX12_least 2 := ⟨by decide, by decide, by decide +kernel⟩
theorem ds_X12_lengthOf : am_ds mX12_lengthOf 2 := ⟨by decide, by decide, by decide +kernel⟩
theorem ds_X12_looks : am_ds mX12_looks 0 := ⟨by decide, by decide, by decide +kernel⟩
theorem ds_X12_make : am_ds mX12_make 2 := ⟨by decide, by decide, by decide +kernel⟩
theorem ds_X12_making : am_ds mX12_making 0 := ⟨by decide, by decide, by decide +kernel⟩
theorem ds_X12_may : am_ds mX12_may 4 := ⟨by decide, by decide, by decide +kernel⟩
theorem ds_X12_mayAt : am_ds mX12_mayAt 4 := ⟨by decide, by decide, by decide +kernel⟩
theorem ds_X12_mayBe : am_ds mX12_mayBe 2 := ⟨by decide, by decide, by decide +kernel⟩
theorem ds_X12_monthOf : am_ds mX12_monthOf 1 := ⟨by decide, by decide, by decide +kernel⟩
theorem ds_X12_months : am_ds mX12_months 2 := ⟨by decide, by decide, by decide +kernel⟩
theorem ds_X12_mourns : am_ds mX12_mourns 3 := ⟨by decide, by decide, by decide +kernel⟩
theorem ds_X12_needs : am_ds mX12_needs 1 := ⟨by decide, by decide, by decide +kernel⟩
theorem ds_X12_needs_ : am_ds mX12_needs_ 1 := ⟨by decide, by decide, by decide +kernel⟩
theorem ds_X12_needs__ : am_ds mX12_needs__ 1 := ⟨by decide, by decide, by decide +kernel⟩
theorem ds_X12_number : am_ds mX12_number 2 := ⟨by decide, by decide, by decide +kernel⟩
theorem ds_X12_option : am_ds mX12_option 1 := ⟨by decide, by decide, by decide +kernel⟩
theorem ds_X12_others : am_ds mX12_others 0 := ⟨by decide, by decide, by decide +kernel⟩
theorem ds_X12_out : am_ds mX12_out 1 := ⟨by decide, by decide, by decide +kernel⟩
theorem ds_X12_person : am_ds mX12_person 4 := ⟨by decide, by decide, by decide +kernel⟩
theorem ds_X12_plan : am_ds mX12_plan 3 := ⟨by decide, by decide, by decide +kernel⟩
theorem ds_X12_planned : am_ds mX12_planned 3 := ⟨by decide, by decide, by decide +kernel⟩
theorem ds_X12_plans : am_ds mX12_plans 2 := ⟨by decide, by decide, by decide +kernel⟩
theorem ds_X12_prepares : am_ds mX12_prepares 2 := ⟨by decide, by decide, by decide +kernel⟩
theorem ds_X12_quarrel : am_ds mX12_quarrel 2 := ⟨by decide, by decide, by decide +kernel⟩
theorem ds_X12_reached : am_ds mX12_reached 3 := ⟨by decide, by decide, by decide +kernel⟩
theorem ds_X12_reads : am_ds mX12_reads 2 := ⟨by decide, by decide, by decide +kernel⟩
theorem ds_X12_rule : am_ds mX12_rule 0 := ⟨by decide, by decide, by decide +kernel⟩
theorem ds_X12_ruleFor : am_ds mX12_ruleFor 3 := ⟨by decide, by decide, by decide +kernel⟩
theorem ds_X12_splits : am_ds mX12_splits 2 := ⟨by decide, by decide, by decide +kernel⟩
theorem ds_X12_stage : am_ds mX12_stage 1 := ⟨by decide, by decide, by decide +kernel⟩
theorem ds_X12_stands : am_ds mX12_stands 2 := ⟨by decide, by decide, by decide +kernel⟩
theorem ds_X12_take : am_ds mX12_take 0 := ⟨by decide, by decide, by decide +kernel⟩
theorem ds_X12_takes : am_ds mX12_takes 3 := ⟨by decide, by decide, by decide +kernel⟩
theorem ds_X12_told : am_ds mX12_told 2 := ⟨by decide, by decide, by decide +kernel⟩
theorem ds_X12_tries : am_ds mX12_tries 1 := ⟨by decide, by decide, by decide +kernel⟩
theorem ds_X12_wed : am_ds mX12_wed 3 := ⟨by decide, by decide, by decide +kernel⟩
theorem ds_X12_weds : am_ds mX12_weds 1 := ⟨by decide, by decide, by decide +kernel⟩
theorem ds_X12_word : am_ds mX12_word 1 := ⟨by decide, by decide, by decide +kernel⟩
theorem ds_X12_wordOf : am_ds mX12_wordOf 1 := ⟨by decide, by decide, by decide +kernel⟩
theorem ds_X12_works : am_ds mX12_works 0 := ⟨by decide, by decide, by decide +kernel⟩
theorem ds_X12_worn : am_ds mX12_worn 2 := ⟨by decide, by decide, by decide +kernel⟩
theorem ds_X12_write : am_ds mX12_write 2 := ⟨by decide, by decide, by decide +kernel⟩
theorem ds_X12_writes : am_ds mX12_writes 2 := ⟨by decide, by decide, by decide +kernel⟩
theorem ds_X12_writesRule : am_ds mX12_writesRule 2 := ⟨by decide, by decide, by decide +kernel⟩
theorem ds_X12_yearOf : am_ds mX12_yearOf 1 := ⟨by decide, by decide, by decide +kernel⟩
theorem ds_X1_blankLaw : am_ds mX1_blankLaw 0 := ⟨by decide, by decide, by decide +kernel⟩
theorem ds_X1_canOrder : am_ds mX1_canOrder 2 := ⟨by decide, by decide, by decide +kernel⟩
theorem ds_X1_enact : am_ds mX1_enact 2 := ⟨by decide, by decide, by decide +kernel⟩
theorem ds_X1_lawNumbered : am_ds mX1_lawNumbered 1 := ⟨by decide, by decide, by decide +kernel⟩
theorem ds_X1_lawOn : am_ds mX1_lawOn 2 := ⟨by decide, by decide, by decide +kernel⟩
theorem ds_X1_order : am_ds mX1_order 4 := ⟨by decide, by decide, by decide +kernel⟩
theorem ds_X1_orderedDepth : am_ds mX1_orderedDepth 2 := ⟨by decide, by decide, by decide +kernel⟩
theorem ds_X2_add : am_ds mX2_add 5 := ⟨by decide, by decide, by decide +kernel⟩
theorem ds_X2_addChild : am_ds mX2_addChild 2 := ⟨by decide, by decide, by decide +kernel⟩
theorem ds_X2_areAlive : am_ds mX2_areAlive 1 := ⟨by decide, by decide, by decide +kernel⟩
theorem ds_X2_bury : am_ds mX2_bury 3 := ⟨by decide, by decide, by decide +kernel⟩
theorem ds_X2_canBeParent : am_ds mX2_canBeParent 3 := ⟨by decide, by decide, by decide +kernel⟩
theorem ds_X2_canMarry : am_ds mX2_canMarry 3 := ⟨by decide, by decide, by decide +kernel⟩
theorem ds_X2_factOf : am_ds mX2_factOf 2 := ⟨by decide, by decide, by decide +kernel⟩
theorem ds_X2_gather : am_ds mX2_gather 2 := ⟨by decide, by decide, by decide +kernel⟩
theorem ds_X2_has : am_ds mX2_has 1 := ⟨by decide, by decide, by decide +kernel⟩
theorem ds_X2_hasChildBorn : am_ds mX2_hasChildBorn 4 := ⟨by decide, by decide, by decide +kernel⟩
theorem ds_X2_hasPlaceFor : am_ds mX2_hasPlaceFor 4 := ⟨by decide, by decide, by decide +kernel⟩
theorem ds_X2_isKin : am_ds mX2_isKin 4 := ⟨by decide, by decide, by decide +kernel⟩
theorem ds_X2_isMan : am_ds mX2_isMan 1 := ⟨by decide, by decide, by decide +kernel⟩
theorem ds_X2_isToldDead : am_ds mX2_isToldDead 1 := ⟨by decide, by decide, by decide +kernel⟩
theorem ds_X2_kinOf : am_ds mX2_kinOf 2 := ⟨by decide, by decide, by decide +kernel⟩
theorem ds_X2_marry : am_ds mX2_marry 4 := ⟨by decide, by decide, by decide +kernel⟩
theorem ds_X2_nextWedding : am_ds mX2_nextWedding 3 := ⟨by decide, by decide, by decide +kernel⟩
theorem ds_X2_relativesOf : am_ds mX2_relativesOf 2 := ⟨by decide, by decide, by decide +kernel⟩
theorem ds_X3_addFeast : am_ds mX3_addFeast 2 := ⟨by decide, by decide, by decide +kernel⟩
theorem ds_X3_addKin : am_ds mX3_addKin 1 := ⟨by decide, by decide, by decide +kernel⟩
theorem ds_X3_addOption : am_ds mX3_addOption 1 := ⟨by decide, by decide, by decide +kernel⟩
theorem ds_X3_addPart : am_ds mX3_addPart 3 := ⟨by decide, by decide, by decide +kernel⟩
theorem ds_X3_clear : am_ds mX3_clear 0 := ⟨by decide, by decide, by decide +kernel⟩
theorem ds_X3_endOfPart : am_ds mX3_endOfPart 3 := ⟨by decide, by decide, by decide +kernel⟩
theorem ds_X3_hasOption : am_ds mX3_hasOption 2 := ⟨by decide, by decide, by decide +kernel⟩
theorem ds_X3_hasRoomForFeast : am_ds mX3_hasRoomForFeast 0 := ⟨by decide, by decide, by decide +kernel⟩
theorem ds_X3_hasRoomForPart : am_ds mX3_hasRoomForPart 0 := ⟨by decide, by decide, by decide +kernel⟩
theorem ds_X3_hasRoomForRule : am_ds mX3_hasRoomForRule 0 := ⟨by decide, by decide, by decide +kernel⟩
theorem ds_X3_hasRule : am_ds mX3_hasRule 1 := ⟨by decide, by decide, by decide +kernel⟩
theorem ds_X3_isLighter : am_ds mX3_isLighter 1 := ⟨by decide, by decide, by decide +kernel⟩
theorem ds_X3_isSameKin : am_ds mX3_isSameKin 2 := ⟨by decide, by decide, by decide +kernel⟩
theorem ds_X3_isSameOtherwise : am_ds mX3_isSameOtherwise 2 := ⟨by decide, by decide, by decide +kernel⟩
theorem ds_X3_kinCount : am_ds mX3_kinCount 1 := ⟨by decide, by decide, by decide +kernel⟩
theorem ds_X3_kinWord : am_ds mX3_kinWord 2 := ⟨by decide, by decide, by decide +kernel⟩
theorem ds_X3_onFeasts : am_ds mX3_onFeasts 2 := ⟨by decide, by decide, by decide +kernel⟩
theorem ds_X3_openRule : am_ds mX3_openRule 0 := ⟨by decide, by decide, by decide +kernel⟩
theorem ds_X3_partCount : am_ds mX3_partCount 1 := ⟨by decide, by decide, by decide +kernel⟩
theorem ds_X3_partDepth : am_ds mX3_partDepth 2 := ⟨by decide, by decide, by decide +kernel⟩
theorem ds_X3_quarrelNumbered : am_ds mX3_quarrelNumbered 1 := ⟨by decide, by decide, by decide +kernel⟩
theorem ds_X3_spell : am_ds mX3_spell 2 := ⟨by decide, by decide, by decide +kernel⟩
theorem ds_X4_depthOn : am_ds mX4_depthOn 1 := ⟨by decide, by decide, by decide +kernel⟩
theorem ds_X4_edgeOn : am_ds mX4_edgeOn 1 := ⟨by decide, by decide, by decide +kernel⟩
theorem ds_X4_endByWedding : am_ds mX4_endByWedding 0 := ⟨by decide, by decide, by decide +kernel⟩
theorem ds_X4_isAllowed : am_ds mX4_isAllowed 2 := ⟨by decide, by decide, by decide +kernel⟩
theorem ds_X4_isTooYoung : am_ds mX4_isTooYoung 2 := ⟨by decide, by decide, by decide +kernel⟩
theorem ds_X4_lastDayFor : am_ds mX4_lastDayFor 1 := ⟨by decide, by decide, by decide +kernel⟩
theorem ds_X4_lightened : am_ds mX4_lightened 2 := ⟨by decide, by decide, by decide +kernel⟩
theorem ds_X4_lookAhead : am_ds mX4_lookAhead 0 := ⟨by decide, by decide, by decide +kernel⟩
theorem ds_X4_moveTo : am_ds mX4_moveTo 1 := ⟨by decide, by decide, by decide +kernel⟩
theorem ds_X4_passDays : am_ds mX4_passDays 1 := ⟨by decide, by decide, by decide +kernel⟩
theorem ds_X4_ruleFor : am_ds mX4_ruleFor 3 := ⟨by decide, by decide, by decide +kernel⟩
theorem ds_X4_startMourning : am_ds mX4_startMourning 2 := ⟨by decide, by decide, by decide +kernel⟩
theorem ds_X4_study : am_ds mX4_study 2 := ⟨by decide, by decide, by decide +kernel⟩
theorem ds_X5_depthNow : am_ds mX5_depthNow 0 := ⟨by decide, by decide, by decide +kernel⟩
theorem ds_X5_finish : am_ds mX5_finish 1 := ⟨by decide, by decide, by decide +kernel⟩
theorem ds_X5_goesOn : am_ds mX5_goesOn 1 := ⟨by decide, by decide, by decide +kernel⟩
theorem ds_X5_isOn : am_ds mX5_isOn 1 := ⟨by decide, by decide, by decide +kernel⟩
theorem ds_X5_leftInPart : am_ds mX5_leftInPart 0 := ⟨by decide, by decide, by decide +kernel⟩
theorem ds_X5_pass : am_ds mX5_pass 2 := ⟨by decide, by decide, by decide +kernel⟩
theorem ds_X5_start : am_ds mX5_start 5 := ⟨by decide, by decide, by decide +kernel⟩
theorem ds_X6_add : am_ds mX6_add 1 := ⟨by decide, by decide, by decide +kernel⟩
theorem ds_X6_addByte : am_ds mX6_addByte 1 := ⟨by decide, by decide, by decide +kernel⟩
theorem ds_X6_addNumber : am_ds mX6_addNumber 1 := ⟨by decide, by decide, by decide +kernel⟩
theorem ds_X6_addWord : am_ds mX6_addWord 1 := ⟨by decide, by decide, by decide +kernel⟩
theorem ds_X6_clear : am_ds mX6_clear 0 := ⟨by decide, by decide, by decide +kernel⟩
theorem ds_X6_has : am_ds mX6_has 1 := ⟨by decide, by decide, by decide +kernel⟩
theorem ds_X7_add : am_ds mX7_add 2 := ⟨by decide, by decide, by decide +kernel⟩
theorem ds_X7_choose : am_ds mX7_choose 2 := ⟨by decide, by decide, by decide +kernel⟩
theorem ds_X7_dressOf : am_ds mX7_dressOf 1 := ⟨by decide, by decide, by decide +kernel⟩
theorem ds_X7_dyeDarker : am_ds mX7_dyeDarker 2 := ⟨by decide, by decide, by decide +kernel⟩
theorem ds_X7_freeHand : am_ds mX7_freeHand 1 := ⟨by decide, by decide, by decide +kernel⟩
theorem ds_X7_isInTime : am_ds mX7_isInTime 2 := ⟨by decide, by decide, by decide +kernel⟩
theorem ds_X7_keep : am_ds mX7_keep 1 := ⟨by decide, by decide, by decide +kernel⟩
theorem ds_X7_open : am_ds mX7_open 1 := ⟨by decide, by decide, by decide +kernel⟩
theorem ds_X7_pick : am_ds mX7_pick 4 := ⟨by decide, by decide, by decide +kernel⟩
theorem ds_X7_sew : am_ds mX7_sew 2 := ⟨by decide, by decide, by decide +kernel⟩
theorem ds_X7_solve : am_ds mX7_solve 0 := ⟨by decide, by decide, by decide +kernel⟩
theorem ds_X7_takeHands : am_ds mX7_takeHands 0 := ⟨by decide, by decide, by decide +kernel⟩
theorem ds_X7_wayOf : am_ds mX7_wayOf 1 := ⟨by decide, by decide, by decide +kernel⟩
theorem ds_X7_wear : am_ds mX7_wear 2 := ⟨by decide, by decide, by decide +kernel⟩
theorem ds_X8_append : am_ds mX8_append 1 := ⟨by decide, by decide, by decide +kernel⟩
theorem ds_X8_codeAt : am_ds mX8_codeAt 1 := ⟨by decide, by decide, by decide +kernel⟩
theorem ds_X8_depthAt : am_ds mX8_depthAt 1 := ⟨by decide, by decide, by decide +kernel⟩
theorem ds_X8_endOfToken : am_ds mX8_endOfToken 2 := ⟨by decide, by decide, by decide +kernel⟩
theorem ds_X8_expect : am_ds mX8_expect 1 := ⟨by decide, by decide, by decide +kernel⟩
theorem ds_X8_expectNumber : am_ds mX8_expectNumber 2 := ⟨by decide, by decide, by decide +kernel⟩
theorem ds_X8_expectStuff : am_ds mX8_expectStuff 0 := ⟨by decide, by decide, by decide +kernel⟩
theorem ds_X8_fail : am_ds mX8_fail 1 := ⟨by decide, by decide, by decide +kernel⟩
theorem ds_X8_findTokens : am_ds mX8_findTokens 2 := ⟨by decide, by decide, by decide +kernel⟩
theorem ds_X8_hasRoom : am_ds mX8_hasRoom 0 := ⟨by decide, by decide, by decide +kernel⟩
theorem ds_X8_isDigit : am_ds mX8_isDigit 1 := ⟨by decide, by decide, by decide +kernel⟩
theorem ds_X8_isLetter : am_ds mX8_isLetter 1 := ⟨by decide, by decide, by decide +kernel⟩
theorem ds_X8_keepToken : am_ds mX8_keepToken 3 := ⟨by decide, by decide, by decide +kernel⟩
theorem ds_X8_kindOf : am_ds mX8_kindOf 2 := ⟨by decide, by decide, by decide +kernel⟩
theorem ds_X8_readFeast : am_ds mX8_readFeast 1 := ⟨by decide, by decide, by decide +kernel⟩
theorem ds_X8_readHeir : am_ds mX8_readHeir 1 := ⟨by decide, by decide, by decide +kernel⟩
theorem ds_X8_readInto : am_ds mX8_readInto 1 := ⟨by decide, by decide, by decide +kernel⟩
theorem ds_X8_readKin : am_ds mX8_readKin 1 := ⟨by decide, by decide, by decide +kernel⟩
theorem ds_X8_readLine : am_ds mX8_readLine 3 := ⟨by decide, by decide, by decide +kernel⟩
theorem ds_X8_readMay : am_ds mX8_readMay 1 := ⟨by decide, by decide, by decide +kernel⟩
theorem ds_X8_readOptions : am_ds mX8_readOptions 1 := ⟨by decide, by decide, by decide +kernel⟩
theorem ds_X8_readPart : am_ds mX8_readPart 1 := ⟨by decide, by decide, by decide +kernel⟩
theorem ds_X8_readParts : am_ds mX8_readParts 1 := ⟨by decide, by decide, by decide +kernel⟩
theorem ds_X8_readRule : am_ds mX8_readRule 1 := ⟨by decide, by decide, by decide +kernel⟩
theorem ds_X8_readUnder : am_ds mX8_readUnder 1 := ⟨by decide, by decide, by decide +kernel⟩
theorem ds_X8_readWedding : am_ds mX8_readWedding 1 := ⟨by decide, by decide, by decide +kernel⟩
theorem ds_X8_value : am_ds mX8_value 0 := ⟨by decide, by decide, by decide +kernel⟩
theorem ds_X8_valueOf : am_ds mX8_valueOf 2 := ⟨by decide, by decide, by decide +kernel⟩
theorem ds_X9_addTask : am_ds mX9_addTask 4 := ⟨by decide, by decide, by decide +kernel⟩
theorem ds_X9_bring : am_ds mX9_bring 1 := ⟨by decide, by decide, by decide +kernel⟩
theorem ds_X9_canBe : am_ds mX9_canBe 2 := ⟨by decide, by decide, by decide +kernel⟩
theorem ds_X9_canDye : am_ds mX9_canDye 2 := ⟨by decide, by decide, by decide +kernel⟩
theorem ds_X9_canHang : am_ds mX9_canHang 2 := ⟨by decide, by decide, by decide +kernel⟩
theorem ds_X9_canMake : am_ds mX9_canMake 2 := ⟨by decide, by decide, by decide +kernel⟩
theorem ds_X9_canStore : am_ds mX9_canStore 2 := ⟨by decide, by decide, by decide +kernel⟩
theorem ds_X9_clearDone : am_ds mX9_clearDone 0 := ⟨by decide, by decide, by decide +kernel⟩
theorem ds_X9_clothsOf : am_ds mX9_clothsOf 1 := ⟨by decide, by decide, by decide +kernel⟩
theorem ds_X9_hang : am_ds mX9_hang 2 := ⟨by decide, by decide, by decide +kernel⟩
theorem ds_X9_has : am_ds mX9_has 1 := ⟨by decide, by decide, by decide +kernel⟩
theorem ds_X9_leastDress : am_ds mX9_leastDress 3 := ⟨by decide, by decide, by decide +kernel⟩
theorem ds_X9_startDye : am_ds mX9_startDye 2 := ⟨by decide, by decide, by decide +kernel⟩
theorem ds_X9_startMake : am_ds mX9_startMake 2 := ⟨by decide, by decide, by decide +kernel⟩
theorem ds_X9_store : am_ds mX9_store 2 := ⟨by decide, by decide, by decide +kernel⟩
theorem ds_X9_work : am_ds mX9_work 1 := ⟨by decide, by decide, by decide +kernel⟩
