-- CONSTRUCTORS: words, decode rows of the class's
theorem wd_141 : Cond.methodLink "MourningHouse" 1 ⟨"java/lang/Object", "<init>", "()V"⟩ ∈ am_TW := am_tk1 (List.mem_of_getElem? (i := 30) (by decide +kernel)) rfl
theorem wd_144 : Cond.classLink "MourningHouse" 7 "MourningHouse$Reader" ∈ am_TW := am_tk1 (List.mem_of_getElem? (i := 33) (by decide +kernel)) rfl
theorem wd_145 : Cond.instantiable "MourningHouse$Reader" 10 ∈ am_TW := am_tk1 (List.mem_of_getElem? (i := 34) (by decide +kernel)) rfl
theorem wd_147 : Cond.instanceMethod ⟨"MourningHouse$Reader", "<init>", "()V"⟩ ∈ am_TW := am_tk1 (List.mem_of_getElem? (i := 36) (by decide +kernel)) rfl
theorem wd_149 : Cond.methodLink "MourningHouse$Reader" 1 ⟨"java/lang/Object", "<init>", "()V"⟩ ∈ am_TW := am_tk1 (List.mem_of_getElem? (i := 38) (by decide +kernel)) rfl
theorem wd_185 : Cond.arrayClass .char ∈ am_TW := am_tk1 (List.mem_of_getElem? (i := 74) (by decide +kernel)) rfl
theorem wd_186 : Cond.arrayClass .int ∈ am_TW := am_tk1 (List.mem_of_getElem? (i := 75) (by decide +kernel)) rfl
theorem wd_187 : Cond.classLink "MourningHouse" 16 "MourningHouse$Page" ∈ am_TW := am_tk1 (List.mem_of_getElem? (i := 76) (by decide +kernel)) rfl
theorem wd_188 : Cond.instantiable "MourningHouse$Page" 2 ∈ am_TW := am_tk1 (List.mem_of_getElem? (i := 77) (by decide +kernel)) rfl
theorem wd_190 : Cond.instanceMethod ⟨"MourningHouse$Page", "<init>", "()V"⟩ ∈ am_TW := am_tk1 (List.mem_of_getElem? (i := 79) (by decide +kernel)) rfl
theorem wd_192 : Cond.methodLink "MourningHouse$Page" 1 ⟨"java/lang/Object", "<init>", "()V"⟩ ∈ am_TW := am_tk1 (List.mem_of_getElem? (i := 81) (by decide +kernel)) rfl
theorem wd_202 : Cond.classLink "MourningHouse" 23 "MourningHouse$Decrees" ∈ am_TW := am_tk1 (List.mem_of_getElem? (i := 91) (by decide +kernel)) rfl
theorem wd_203 : Cond.instantiable "MourningHouse$Decrees" 7 ∈ am_TW := am_tk1 (List.mem_of_getElem? (i := 92) (by decide +kernel)) rfl
theorem wd_204 : Cond.methodLink "MourningHouse" 25 ⟨"MourningHouse$Decrees", "<init>", "()V"⟩ ∈ am_TW := am_tk1 (List.mem_of_getElem? (i := 93) (by decide +kernel)) rfl
theorem wd_205 : Cond.instanceMethod ⟨"MourningHouse$Decrees", "<init>", "()V"⟩ ∈ am_TW := am_tk1 (List.mem_of_getElem? (i := 94) (by decide +kernel)) rfl
theorem wd_207 : Cond.methodLink "MourningHouse$Decrees" 1 ⟨"java/lang/Object", "<init>", "()V"⟩ ∈ am_TW := am_tk1 (List.mem_of_getElem? (i := 96) (by decide +kernel)) rfl
theorem wd_208 : Cond.classLink "MourningHouse$Decrees" 9 "MourningHouse$Law" ∈ am_TW := am_tk1 (List.mem_of_getElem? (i := 97) (by decide +kernel)) rfl
theorem wd_210 : Cond.instantiable "MourningHouse$Law" 18 ∈ am_TW := am_tk1 (List.mem_of_getElem? (i := 99) (by decide +kernel)) rfl
theorem wd_212 : Cond.instanceMethod ⟨"MourningHouse$Law", "<init>", "()V"⟩ ∈ am_TW := am_tk1 (List.mem_of_getElem? (i := 101) (by decide +kernel)) rfl
theorem wd_214 : Cond.methodLink "MourningHouse$Law" 3 ⟨"java/lang/Object", "<init>", "()V"⟩ ∈ am_TW := am_tk1 (List.mem_of_getElem? (i := 103) (by decide +kernel)) rfl
theorem wd_246 : Cond.fieldLink "MourningHouse$Law" 64 "MourningHouse$Law" "takenOn" "I" ∈ am_TW := am_tk1 (List.mem_of_getElem? (i := 135) (by decide +kernel)) rfl
theorem wd_309 : Cond.classLink "MourningHouse" 30 "MourningHouse$Family" ∈ am_TW := am_tk1 (List.mem_of_getElem? (i := 198) (by decide +kernel)) rfl
theorem wd_310 : Cond.instantiable "MourningHouse$Family" 20 ∈ am_TW := am_tk1 (List.mem_of_getElem? (i := 199) (by decide +kernel)) rfl
theorem wd_312 : Cond.instanceMethod ⟨"MourningHouse$Family", "<init>", "()V"⟩ ∈ am_TW := am_tk1 (List.mem_of_getElem? (i := 201) (by decide +kernel)) rfl
theorem wd_314 : Cond.methodLink "MourningHouse$Family" 3 ⟨"java/lang/Object", "<init>", "()V"⟩ ∈ am_TW := am_tk1 (List.mem_of_getElem? (i := 203) (by decide +kernel)) rfl
theorem wd_385 : Cond.arrayClass .long ∈ am_TW := am_tk2 (List.mem_of_getElem? (i := 34) (by decide +kernel)) rfl
theorem wd_386 : Cond.classLink "MourningHouse" 37 "MourningHouse$Mourner" ∈ am_TW := am_tk2 (List.mem_of_getElem? (i := 35) (by decide +kernel)) rfl
theorem wd_387 : Cond.instantiable "MourningHouse$Mourner" 10 ∈ am_TW := am_tk2 (List.mem_of_getElem? (i := 36) (by decide +kernel)) rfl
theorem wd_388 : Cond.methodLink "MourningHouse" 39 ⟨"MourningHouse$Mourner", "<init>", "(LMourningHouse$Family;LMourningHouse$Decrees;)V"⟩ ∈ am_TW := am_tk2 (List.mem_of_getElem? (i := 37) (by decide +kernel)) rfl
theorem wd_389 : Cond.instanceMethod ⟨"MourningHouse$Mourner", "<init>", "(LMourningHouse$Family;LMourningHouse$Decrees;)V"⟩ ∈ am_TW := am_tk2 (List.mem_of_getElem? (i := 38) (by decide +kernel)) rfl
theorem wd_391 : Cond.methodLink "MourningHouse$Mourner" 5 ⟨"java/lang/Object", "<init>", "()V"⟩ ∈ am_TW := am_tk2 (List.mem_of_getElem? (i := 40) (by decide +kernel)) rfl
theorem wd_392 : Cond.classLink "MourningHouse$Mourner" 13 "MourningHouse$Mourning" ∈ am_TW := am_tk2 (List.mem_of_getElem? (i := 41) (by decide +kernel)) rfl
theorem wd_394 : Cond.instantiable "MourningHouse$Mourning" 11 ∈ am_TW := am_tk2 (List.mem_of_getElem? (i := 43) (by decide +kernel)) rfl
theorem wd_396 : Cond.instanceMethod ⟨"MourningHouse$Mourning", "<init>", "()V"⟩ ∈ am_TW := am_tk2 (List.mem_of_getElem? (i := 45) (by decide +kernel)) rfl
theorem wd_398 : Cond.methodLink "MourningHouse$Mourning" 3 ⟨"java/lang/Object", "<init>", "()V"⟩ ∈ am_TW := am_tk2 (List.mem_of_getElem? (i := 47) (by decide +kernel)) rfl
theorem wd_469 : Cond.classLink "MourningHouse" 46 "MourningHouse$Wardrobe" ∈ am_TW := am_tk2 (List.mem_of_getElem? (i := 118) (by decide +kernel)) rfl
theorem wd_470 : Cond.instantiable "MourningHouse$Wardrobe" 12 ∈ am_TW := am_tk2 (List.mem_of_getElem? (i := 119) (by decide +kernel)) rfl
theorem wd_472 : Cond.instanceMethod ⟨"MourningHouse$Wardrobe", "<init>", "()V"⟩ ∈ am_TW := am_tk2 (List.mem_of_getElem? (i := 121) (by decide +kernel)) rfl
theorem wd_474 : Cond.methodLink "MourningHouse$Wardrobe" 3 ⟨"java/lang/Object", "<init>", "()V"⟩ ∈ am_TW := am_tk2 (List.mem_of_getElem? (i := 123) (by decide +kernel)) rfl
theorem wd_522 : Cond.arrayClass .boolean ∈ am_TW := am_tk2 (List.mem_of_getElem? (i := 171) (by decide +kernel)) rfl
theorem wd_523 : Cond.classLink "MourningHouse" 53 "MourningHouse$Planner" ∈ am_TW := am_tk2 (List.mem_of_getElem? (i := 172) (by decide +kernel)) rfl
theorem wd_524 : Cond.instantiable "MourningHouse$Planner" 13 ∈ am_TW := am_tk2 (List.mem_of_getElem? (i := 173) (by decide +kernel)) rfl
theorem wd_525 : Cond.methodLink "MourningHouse" 55 ⟨"MourningHouse$Planner", "<init>", "(LMourningHouse$Wardrobe;)V"⟩ ∈ am_TW := am_tk2 (List.mem_of_getElem? (i := 174) (by decide +kernel)) rfl
theorem wd_526 : Cond.instanceMethod ⟨"MourningHouse$Planner", "<init>", "(LMourningHouse$Wardrobe;)V"⟩ ∈ am_TW := am_tk2 (List.mem_of_getElem? (i := 175) (by decide +kernel)) rfl
theorem wd_528 : Cond.methodLink "MourningHouse$Planner" 3 ⟨"java/lang/Object", "<init>", "()V"⟩ ∈ am_TW := am_tk2 (List.mem_of_getElem? (i := 177) (by decide +kernel)) rfl
theorem wd_1513 : Cond.methodLink "MourningHouseModel" 1 ⟨"java/lang/Object", "<init>", "()V"⟩ ∈ am_TW := am_tk6 (List.mem_of_getElem? (i := 202) (by decide +kernel)) rfl
theorem wd_1514 : Cond.classLink "MourningHouseModel" 23 "[[I" ∈ am_TW := am_tk6 (List.mem_of_getElem? (i := 203) (by decide +kernel)) rfl
theorem wd_1516 : Cond.classLink "MourningHouseModel" 34 "[[[I" ∈ am_TW := am_tk6 (List.mem_of_getElem? (i := 205) (by decide +kernel)) rfl
theorem wd_1518 : Cond.classLink "MourningHouseModel" 66 "java/lang/String" ∈ am_TW := am_tk6 (List.mem_of_getElem? (i := 207) (by decide +kernel)) rfl
theorem wc_X11_init : am_code mX11_init := am_tk1 (List.mem_of_getElem? (i := 29) (by decide +kernel)) rfl
theorem wc_X12_init : am_code mX12_init := am_tk6 (List.mem_of_getElem? (i := 201) rfl) rfl
theorem wc_X1_init : am_code mX1_init := am_tk1 (List.mem_of_getElem? (i := 95) (by decide +kernel)) rfl
theorem wc_X2_init : am_code mX2_init := am_tk1 (List.mem_of_getElem? (i := 202) (by decide +kernel)) rfl
theorem wc_X3_init : am_code mX3_init := am_tk1 (List.mem_of_getElem? (i := 102) (by decide +kernel)) rfl
theorem wc_X4_init : am_code mX4_init := am_tk2 (List.mem_of_getElem? (i := 39) (by decide +kernel)) rfl
theorem wc_X5_init : am_code mX5_init := am_tk2 (List.mem_of_getElem? (i := 46) (by decide +kernel)) rfl
theorem wc_X6_init : am_code mX6_init := am_tk1 (List.mem_of_getElem? (i := 80) (by decide +kernel)) rfl
theorem wc_X7_init : am_code mX7_init := am_tk2 (List.mem_of_getElem? (i := 176) (by decide +kernel)) rfl
theorem wc_X8_init : am_code mX8_init := am_tk1 (List.mem_of_getElem? (i := 37) (by decide +kernel)) rfl
theorem wc_X9_init : am_code mX9_init := am_tk2 (List.mem_of_getElem? (i := 122) (by decide +kernel)) rfl
theorem ds_X11_init : am_ds mX11_init 0 := ⟨by decide, by decide, by decide +kernel⟩
theorem ds_X12_init : am_ds mX12_init 0 := ⟨by decide, by decide, by decide +kernel⟩
theorem ds_X1_init : am_ds mX1_init 0 := ⟨by decide, by decide, by decide +kernel⟩
theorem ds_X2_init : am_ds mX2_init 0 := ⟨by decide, by decide, by decide +kernel⟩
theorem ds_X3_init : am_ds mX3_init 0 := ⟨by decide, by decide, by decide +kernel⟩
theorem ds_X4_init : am_ds mX4_init 2 := ⟨by decide, by decide, by decide +kernel⟩
theorem ds_X5_init : am_ds mX5_init 0 := ⟨by decide, by decide, by decide +kernel⟩
theorem ds_X6_init : am_ds mX6_init 0 := ⟨by decide, by decide, by decide +kernel⟩
theorem ds_X7_init : am_ds mX7_init 1 := ⟨by decide, by decide, by decide +kernel⟩
theorem ds_X8_init : am_ds mX8_init 0 := ⟨by decide, by decide, by decide +kernel⟩
theorem ds_X9_init : am_ds mX9_init 0 := ⟨by decide, by decide, by decide +kernel⟩
theorem dX8_init_0 : decode mX8_init.2.1 0 = .ok (.aload_n 0, 1) := by decide +kernel
theorem dX8_init_1 : decode mX8_init.2.1 1 = .ok (.invokespecial 1, 3) := by decide +kernel
theorem dX8_init_4 : decode mX8_init.2.1 4 = .ok (.aload_n 0, 1) := by decide +kernel
theorem dX8_init_5 : decode mX8_init.2.1 5 = .ok (.sipush 3000, 3) := by decide +kernel
theorem dX8_init_8 : decode mX8_init.2.1 8 = .ok (.newarray .char, 2) := by decide +kernel
theorem dX8_init_10 : decode mX8_init.2.1 10 = .ok (.putfield 9, 3) := by decide +kernel
theorem dX8_init_13 : decode mX8_init.2.1 13 = .ok (.aload_n 0, 1) := by decide +kernel
theorem dX8_init_14 : decode mX8_init.2.1 14 = .ok (.bipush 64, 2) := by decide +kernel
theorem dX8_init_16 : decode mX8_init.2.1 16 = .ok (.newarray .int, 2) := by decide +kernel
theorem dX8_init_18 : decode mX8_init.2.1 18 = .ok (.putfield 13, 3) := by decide +kernel
theorem dX8_init_21 : decode mX8_init.2.1 21 = .ok (.aload_n 0, 1) := by decide +kernel
theorem dX8_init_22 : decode mX8_init.2.1 22 = .ok (.bipush 64, 2) := by decide +kernel
theorem dX8_init_24 : decode mX8_init.2.1 24 = .ok (.newarray .int, 2) := by decide +kernel
theorem dX8_init_26 : decode mX8_init.2.1 26 = .ok (.putfield 17, 3) := by decide +kernel
theorem dX8_init_29 : decode mX8_init.2.1 29 = .ok (.aload_n 0, 1) := by decide +kernel
theorem dX8_init_30 : decode mX8_init.2.1 30 = .ok (.iconst 0, 1) := by decide +kernel
theorem dX8_init_31 : decode mX8_init.2.1 31 = .ok (.putfield 20, 3) := by decide +kernel
theorem dX8_init_34 : decode mX8_init.2.1 34 = .ok (.aload_n 0, 1) := by decide +kernel
theorem dX8_init_35 : decode mX8_init.2.1 35 = .ok (.iconst 0, 1) := by decide +kernel
theorem dX8_init_36 : decode mX8_init.2.1 36 = .ok (.putfield 24, 3) := by decide +kernel
theorem dX8_init_39 : decode mX8_init.2.1 39 = .ok (.aload_n 0, 1) := by decide +kernel
theorem dX8_init_40 : decode mX8_init.2.1 40 = .ok (.iconst 0, 1) := by decide +kernel
theorem dX8_init_41 : decode mX8_init.2.1 41 = .ok (.putfield 27, 3) := by decide +kernel
theorem dX8_init_44 : decode mX8_init.2.1 44 = .ok (.aload_n 0, 1) := by decide +kernel
theorem dX8_init_45 : decode mX8_init.2.1 45 = .ok (.iconst 0, 1) := by decide +kernel
theorem dX8_init_46 : decode mX8_init.2.1 46 = .ok (.putfield 30, 3) := by decide +kernel
theorem dX8_init_49 : decode mX8_init.2.1 49 = .ok (.aload_n 0, 1) := by decide +kernel
theorem dX8_init_50 : decode mX8_init.2.1 50 = .ok (.iconst 0, 1) := by decide +kernel
theorem dX8_init_51 : decode mX8_init.2.1 51 = .ok (.putfield 33, 3) := by decide +kernel
theorem dX8_init_54 : decode mX8_init.2.1 54 = .ok (.aload_n 0, 1) := by decide +kernel
theorem dX8_init_55 : decode mX8_init.2.1 55 = .ok (.iconst 0, 1) := by decide +kernel
theorem dX8_init_56 : decode mX8_init.2.1 56 = .ok (.putfield 36, 3) := by decide +kernel
theorem dX8_init_59 : decode mX8_init.2.1 59 = .ok (.aload_n 0, 1) := by decide +kernel
theorem dX8_init_60 : decode mX8_init.2.1 60 = .ok (.iconst 0, 1) := by decide +kernel
theorem dX8_init_61 : decode mX8_init.2.1 61 = .ok (.putfield 39, 3) := by decide +kernel
theorem dX8_init_64 : decode mX8_init.2.1 64 = .ok (.return_, 1) := by decide +kernel
theorem dX6_init_0 : decode mX6_init.2.1 0 = .ok (.aload_n 0, 1) := by decide +kernel
theorem dX6_init_1 : decode mX6_init.2.1 1 = .ok (.invokespecial 1, 3) := by decide +kernel
theorem dX6_init_4 : decode mX6_init.2.1 4 = .ok (.aload_n 0, 1) := by decide +kernel
theorem dX6_init_5 : decode mX6_init.2.1 5 = .ok (.sipush 256, 3) := by decide +kernel
theorem dX6_init_8 : decode mX6_init.2.1 8 = .ok (.newarray .char, 2) := by decide +kernel
theorem dX6_init_10 : decode mX6_init.2.1 10 = .ok (.putfield 9, 3) := by decide +kernel
theorem dX6_init_13 : decode mX6_init.2.1 13 = .ok (.aload_n 0, 1) := by decide +kernel
theorem dX6_init_14 : decode mX6_init.2.1 14 = .ok (.iconst 0, 1) := by decide +kernel
theorem dX6_init_15 : decode mX6_init.2.1 15 = .ok (.putfield 13, 3) := by decide +kernel
theorem dX6_init_18 : decode mX6_init.2.1 18 = .ok (.return_, 1) := by decide +kernel
theorem dX3_init_0 : decode mX3_init.2.1 0 = .ok (.aload_n 0, 1) := by decide +kernel
theorem dX3_init_1 : decode mX3_init.2.1 1 = .ok (.invokespecial 3, 3) := by decide +kernel
theorem dX3_init_4 : decode mX3_init.2.1 4 = .ok (.aload_n 0, 1) := by decide +kernel
theorem dX3_init_5 : decode mX3_init.2.1 5 = .ok (.bipush 30, 2) := by decide +kernel
theorem dX3_init_7 : decode mX3_init.2.1 7 = .ok (.newarray .int, 2) := by decide +kernel
theorem dX3_init_9 : decode mX3_init.2.1 9 = .ok (.putfield 11, 3) := by decide +kernel
theorem dX3_init_12 : decode mX3_init.2.1 12 = .ok (.aload_n 0, 1) := by decide +kernel
theorem dX3_init_13 : decode mX3_init.2.1 13 = .ok (.bipush 120, 2) := by decide +kernel
theorem dX3_init_15 : decode mX3_init.2.1 15 = .ok (.newarray .int, 2) := by decide +kernel
theorem dX3_init_17 : decode mX3_init.2.1 17 = .ok (.putfield 15, 3) := by decide +kernel
theorem dX3_init_20 : decode mX3_init.2.1 20 = .ok (.aload_n 0, 1) := by decide +kernel
theorem dX3_init_21 : decode mX3_init.2.1 21 = .ok (.bipush 30, 2) := by decide +kernel
theorem dX3_init_23 : decode mX3_init.2.1 23 = .ok (.newarray .int, 2) := by decide +kernel
theorem dX3_init_25 : decode mX3_init.2.1 25 = .ok (.putfield 18, 3) := by decide +kernel
theorem dX3_init_28 : decode mX3_init.2.1 28 = .ok (.aload_n 0, 1) := by decide +kernel
theorem dX3_init_29 : decode mX3_init.2.1 29 = .ok (.bipush 120, 2) := by decide +kernel
theorem dX3_init_31 : decode mX3_init.2.1 31 = .ok (.newarray .int, 2) := by decide +kernel
theorem dX3_init_33 : decode mX3_init.2.1 33 = .ok (.putfield 21, 3) := by decide +kernel
theorem dX3_init_36 : decode mX3_init.2.1 36 = .ok (.aload_n 0, 1) := by decide +kernel
theorem dX3_init_37 : decode mX3_init.2.1 37 = .ok (.bipush 120, 2) := by decide +kernel
theorem dX3_init_39 : decode mX3_init.2.1 39 = .ok (.newarray .int, 2) := by decide +kernel
theorem dX3_init_41 : decode mX3_init.2.1 41 = .ok (.putfield 24, 3) := by decide +kernel
theorem dX3_init_44 : decode mX3_init.2.1 44 = .ok (.aload_n 0, 1) := by decide +kernel
theorem dX3_init_45 : decode mX3_init.2.1 45 = .ok (.bipush 120, 2) := by decide +kernel
theorem dX3_init_47 : decode mX3_init.2.1 47 = .ok (.newarray .int, 2) := by decide +kernel
theorem dX3_init_49 : decode mX3_init.2.1 49 = .ok (.putfield 27, 3) := by decide +kernel
theorem dX3_init_52 : decode mX3_init.2.1 52 = .ok (.aload_n 0, 1) := by decide +kernel
theorem dX3_init_53 : decode mX3_init.2.1 53 = .ok (.bipush 30, 2) := by decide +kernel
theorem dX3_init_55 : decode mX3_init.2.1 55 = .ok (.newarray .int, 2) := by decide +kernel
theorem dX3_init_57 : decode mX3_init.2.1 57 = .ok (.putfield 30, 3) := by decide +kernel
theorem dX3_init_60 : decode mX3_init.2.1 60 = .ok (.aload_n 0, 1) := by decide +kernel
theorem dX3_init_61 : decode mX3_init.2.1 61 = .ok (.bipush 8, 2) := by decide +kernel
theorem dX3_init_63 : decode mX3_init.2.1 63 = .ok (.newarray .int, 2) := by decide +kernel
theorem dX3_init_65 : decode mX3_init.2.1 65 = .ok (.putfield 33, 3) := by decide +kernel
theorem dX3_init_68 : decode mX3_init.2.1 68 = .ok (.aload_n 0, 1) := by decide +kernel
theorem dX3_init_69 : decode mX3_init.2.1 69 = .ok (.bipush 8, 2) := by decide +kernel
theorem dX3_init_71 : decode mX3_init.2.1 71 = .ok (.newarray .int, 2) := by decide +kernel
theorem dX3_init_73 : decode mX3_init.2.1 73 = .ok (.putfield 36, 3) := by decide +kernel
theorem dX3_init_76 : decode mX3_init.2.1 76 = .ok (.aload_n 0, 1) := by decide +kernel
theorem dX3_init_77 : decode mX3_init.2.1 77 = .ok (.iconst 4, 1) := by decide +kernel
theorem dX3_init_78 : decode mX3_init.2.1 78 = .ok (.newarray .int, 2) := by decide +kernel
theorem dX3_init_80 : decode mX3_init.2.1 80 = .ok (.putfield 39, 3) := by decide +kernel
theorem dX3_init_83 : decode mX3_init.2.1 83 = .ok (.aload_n 0, 1) := by decide +kernel
theorem dX3_init_84 : decode mX3_init.2.1 84 = .ok (.iconst 0, 1) := by decide +kernel
theorem dX3_init_85 : decode mX3_init.2.1 85 = .ok (.putfield 42, 3) := by decide +kernel
theorem dX3_init_88 : decode mX3_init.2.1 88 = .ok (.aload_n 0, 1) := by decide +kernel
theorem dX3_init_89 : decode mX3_init.2.1 89 = .ok (.iconst 0, 1) := by decide +kernel
theorem dX3_init_90 : decode mX3_init.2.1 90 = .ok (.putfield 46, 3) := by decide +kernel
theorem dX3_init_93 : decode mX3_init.2.1 93 = .ok (.aload_n 0, 1) := by decide +kernel
theorem dX3_init_94 : decode mX3_init.2.1 94 = .ok (.iconst 0, 1) := by decide +kernel
theorem dX3_init_95 : decode mX3_init.2.1 95 = .ok (.putfield 49, 3) := by decide +kernel
theorem dX3_init_98 : decode mX3_init.2.1 98 = .ok (.aload_n 0, 1) := by decide +kernel
theorem dX3_init_99 : decode mX3_init.2.1 99 = .ok (.iconst 0, 1) := by decide +kernel
theorem dX3_init_100 : decode mX3_init.2.1 100 = .ok (.putfield 52, 3) := by decide +kernel
theorem dX3_init_103 : decode mX3_init.2.1 103 = .ok (.aload_n 0, 1) := by decide +kernel
theorem dX3_init_104 : decode mX3_init.2.1 104 = .ok (.iconst 0, 1) := by decide +kernel
theorem dX3_init_105 : decode mX3_init.2.1 105 = .ok (.putfield 55, 3) := by decide +kernel
theorem dX3_init_108 : decode mX3_init.2.1 108 = .ok (.aload_n 0, 1) := by decide +kernel
theorem dX3_init_109 : decode mX3_init.2.1 109 = .ok (.iconst 0, 1) := by decide +kernel
theorem dX3_init_110 : decode mX3_init.2.1 110 = .ok (.putfield 58, 3) := by decide +kernel
theorem dX3_init_113 : decode mX3_init.2.1 113 = .ok (.aload_n 0, 1) := by decide +kernel
theorem dX3_init_114 : decode mX3_init.2.1 114 = .ok (.iconst 0, 1) := by decide +kernel
theorem dX3_init_115 : decode mX3_init.2.1 115 = .ok (.putfield 61, 3) := by decide +kernel
theorem dX3_init_118 : decode mX3_init.2.1 118 = .ok (.aload_n 0, 1) := by decide +kernel
theorem dX3_init_119 : decode mX3_init.2.1 119 = .ok (.iconst 0, 1) := by decide +kernel
theorem dX3_init_120 : decode mX3_init.2.1 120 = .ok (.putfield 64, 3) := by decide +kernel
theorem dX3_init_123 : decode mX3_init.2.1 123 = .ok (.return_, 1) := by decide +kernel
theorem dX4_init_0 : decode mX4_init.2.1 0 = .ok (.aload_n 0, 1) := by decide +kernel
theorem dX4_init_1 : decode mX4_init.2.1 1 = .ok (.invokespecial 5, 3) := by decide +kernel
theorem dX4_init_4 : decode mX4_init.2.1 4 = .ok (.aload_n 0, 1) := by decide +kernel
theorem dX4_init_5 : decode mX4_init.2.1 5 = .ok (.bipush 40, 2) := by decide +kernel
theorem dX4_init_7 : decode mX4_init.2.1 7 = .ok (.anewarray 13, 3) := by decide +kernel
theorem dX4_init_10 : decode mX4_init.2.1 10 = .ok (.putfield 15, 3) := by decide +kernel
theorem dX4_init_13 : decode mX4_init.2.1 13 = .ok (.aload_n 0, 1) := by decide +kernel
theorem dX4_init_14 : decode mX4_init.2.1 14 = .ok (.iconst 0, 1) := by decide +kernel
theorem dX4_init_15 : decode mX4_init.2.1 15 = .ok (.putfield 19, 3) := by decide +kernel
theorem dX4_init_18 : decode mX4_init.2.1 18 = .ok (.aload_n 0, 1) := by decide +kernel
theorem dX4_init_19 : decode mX4_init.2.1 19 = .ok (.iconst 0, 1) := by decide +kernel
theorem dX4_init_20 : decode mX4_init.2.1 20 = .ok (.putfield 23, 3) := by decide +kernel
theorem dX4_init_23 : decode mX4_init.2.1 23 = .ok (.aload_n 0, 1) := by decide +kernel
theorem dX4_init_24 : decode mX4_init.2.1 24 = .ok (.iconst 0, 1) := by decide +kernel
theorem dX4_init_25 : decode mX4_init.2.1 25 = .ok (.putfield 26, 3) := by decide +kernel
theorem dX4_init_28 : decode mX4_init.2.1 28 = .ok (.aload_n 0, 1) := by decide +kernel
theorem dX4_init_29 : decode mX4_init.2.1 29 = .ok (.iconst 0, 1) := by decide +kernel
theorem dX4_init_30 : decode mX4_init.2.1 30 = .ok (.putfield 29, 3) := by decide +kernel
theorem dX4_init_33 : decode mX4_init.2.1 33 = .ok (.aload_n 0, 1) := by decide +kernel
theorem dX4_init_34 : decode mX4_init.2.1 34 = .ok (.iconst 0, 1) := by decide +kernel
theorem dX4_init_35 : decode mX4_init.2.1 35 = .ok (.putfield 32, 3) := by decide +kernel
theorem dX4_init_38 : decode mX4_init.2.1 38 = .ok (.aload_n 0, 1) := by decide +kernel
theorem dX4_init_39 : decode mX4_init.2.1 39 = .ok (.iconst 0, 1) := by decide +kernel
theorem dX4_init_40 : decode mX4_init.2.1 40 = .ok (.putfield 35, 3) := by decide +kernel
theorem dX4_init_43 : decode mX4_init.2.1 43 = .ok (.aload_n 0, 1) := by decide +kernel
theorem dX4_init_44 : decode mX4_init.2.1 44 = .ok (.iconst 0, 1) := by decide +kernel
theorem dX4_init_45 : decode mX4_init.2.1 45 = .ok (.putfield 38, 3) := by decide +kernel
theorem dX4_init_48 : decode mX4_init.2.1 48 = .ok (.aload_n 0, 1) := by decide +kernel
theorem dX4_init_49 : decode mX4_init.2.1 49 = .ok (.aload_n 1, 1) := by decide +kernel
theorem dX4_init_50 : decode mX4_init.2.1 50 = .ok (.putfield 41, 3) := by decide +kernel
theorem dX4_init_53 : decode mX4_init.2.1 53 = .ok (.aload_n 0, 1) := by decide +kernel
theorem dX4_init_54 : decode mX4_init.2.1 54 = .ok (.aload_n 2, 1) := by decide +kernel
theorem dX4_init_55 : decode mX4_init.2.1 55 = .ok (.putfield 45, 3) := by decide +kernel
theorem dX4_init_58 : decode mX4_init.2.1 58 = .ok (.iconst 0, 1) := by decide +kernel
theorem dX4_init_59 : decode mX4_init.2.1 59 = .ok (.istore_n 3, 1) := by decide +kernel
theorem dX4_init_60 : decode mX4_init.2.1 60 = .ok (.iload_n 3, 1) := by decide +kernel
theorem dX4_init_61 : decode mX4_init.2.1 61 = .ok (.bipush 40, 2) := by decide +kernel
theorem dX4_init_63 : decode mX4_init.2.1 63 = .ok (.if_icmp .ge 22, 3) := by decide +kernel
theorem dX4_init_66 : decode mX4_init.2.1 66 = .ok (.aload_n 0, 1) := by decide +kernel
theorem dX4_init_67 : decode mX4_init.2.1 67 = .ok (.getfield 15, 3) := by decide +kernel
theorem dX4_init_70 : decode mX4_init.2.1 70 = .ok (.iload_n 3, 1) := by decide +kernel
theorem dX4_init_71 : decode mX4_init.2.1 71 = .ok (.new 13, 3) := by decide +kernel
theorem dX4_init_74 : decode mX4_init.2.1 74 = .ok (.dup, 1) := by decide +kernel
theorem dX4_init_75 : decode mX4_init.2.1 75 = .ok (.invokespecial 49, 3) := by decide +kernel
theorem dX4_init_78 : decode mX4_init.2.1 78 = .ok (.aastore, 1) := by decide +kernel
theorem dX4_init_79 : decode mX4_init.2.1 79 = .ok (.iinc 3 1, 3) := by decide +kernel
theorem dX4_init_82 : decode mX4_init.2.1 82 = .ok (.goto (-22), 3) := by decide +kernel
theorem dX4_init_85 : decode mX4_init.2.1 85 = .ok (.return_, 1) := by decide +kernel
theorem dX5_init_0 : decode mX5_init.2.1 0 = .ok (.aload_n 0, 1) := by decide +kernel
theorem dX5_init_1 : decode mX5_init.2.1 1 = .ok (.invokespecial 3, 3) := by decide +kernel
theorem dX5_init_4 : decode mX5_init.2.1 4 = .ok (.aload_n 0, 1) := by decide +kernel
theorem dX5_init_5 : decode mX5_init.2.1 5 = .ok (.iconst 4, 1) := by decide +kernel
theorem dX5_init_6 : decode mX5_init.2.1 6 = .ok (.newarray .int, 2) := by decide +kernel
theorem dX5_init_8 : decode mX5_init.2.1 8 = .ok (.putfield 11, 3) := by decide +kernel
theorem dX5_init_11 : decode mX5_init.2.1 11 = .ok (.aload_n 0, 1) := by decide +kernel
theorem dX5_init_12 : decode mX5_init.2.1 12 = .ok (.iconst 4, 1) := by decide +kernel
theorem dX5_init_13 : decode mX5_init.2.1 13 = .ok (.newarray .int, 2) := by decide +kernel
theorem dX5_init_15 : decode mX5_init.2.1 15 = .ok (.putfield 17, 3) := by decide +kernel
theorem dX5_init_18 : decode mX5_init.2.1 18 = .ok (.aload_n 0, 1) := by decide +kernel
theorem dX5_init_19 : decode mX5_init.2.1 19 = .ok (.iconst 0, 1) := by decide +kernel
theorem dX5_init_20 : decode mX5_init.2.1 20 = .ok (.putfield 20, 3) := by decide +kernel
theorem dX5_init_23 : decode mX5_init.2.1 23 = .ok (.aload_n 0, 1) := by decide +kernel
theorem dX5_init_24 : decode mX5_init.2.1 24 = .ok (.iconst (-1), 1) := by decide +kernel
theorem dX5_init_25 : decode mX5_init.2.1 25 = .ok (.putfield 24, 3) := by decide +kernel
theorem dX5_init_28 : decode mX5_init.2.1 28 = .ok (.aload_n 0, 1) := by decide +kernel
theorem dX5_init_29 : decode mX5_init.2.1 29 = .ok (.iconst 0, 1) := by decide +kernel
theorem dX5_init_30 : decode mX5_init.2.1 30 = .ok (.putfield 27, 3) := by decide +kernel
theorem dX5_init_33 : decode mX5_init.2.1 33 = .ok (.aload_n 0, 1) := by decide +kernel
theorem dX5_init_34 : decode mX5_init.2.1 34 = .ok (.iconst 0, 1) := by decide +kernel
theorem dX5_init_35 : decode mX5_init.2.1 35 = .ok (.putfield 30, 3) := by decide +kernel
theorem dX5_init_38 : decode mX5_init.2.1 38 = .ok (.aload_n 0, 1) := by decide +kernel
theorem dX5_init_39 : decode mX5_init.2.1 39 = .ok (.iconst 0, 1) := by decide +kernel
theorem dX5_init_40 : decode mX5_init.2.1 40 = .ok (.putfield 34, 3) := by decide +kernel
theorem dX5_init_43 : decode mX5_init.2.1 43 = .ok (.aload_n 0, 1) := by decide +kernel
theorem dX5_init_44 : decode mX5_init.2.1 44 = .ok (.iconst 0, 1) := by decide +kernel
theorem dX5_init_45 : decode mX5_init.2.1 45 = .ok (.putfield 37, 3) := by decide +kernel
theorem dX5_init_48 : decode mX5_init.2.1 48 = .ok (.aload_n 0, 1) := by decide +kernel
theorem dX5_init_49 : decode mX5_init.2.1 49 = .ok (.iconst 0, 1) := by decide +kernel
theorem dX5_init_50 : decode mX5_init.2.1 50 = .ok (.putfield 40, 3) := by decide +kernel
theorem dX5_init_53 : decode mX5_init.2.1 53 = .ok (.aload_n 0, 1) := by decide +kernel
theorem dX5_init_54 : decode mX5_init.2.1 54 = .ok (.iconst 0, 1) := by decide +kernel
theorem dX5_init_55 : decode mX5_init.2.1 55 = .ok (.putfield 43, 3) := by decide +kernel
theorem dX5_init_58 : decode mX5_init.2.1 58 = .ok (.aload_n 0, 1) := by decide +kernel
theorem dX5_init_59 : decode mX5_init.2.1 59 = .ok (.iconst 0, 1) := by decide +kernel
theorem dX5_init_60 : decode mX5_init.2.1 60 = .ok (.putfield 46, 3) := by decide +kernel
theorem dX5_init_63 : decode mX5_init.2.1 63 = .ok (.return_, 1) := by decide +kernel
theorem dX9_init_0 : decode mX9_init.2.1 0 = .ok (.aload_n 0, 1) := by decide +kernel
theorem dX9_init_1 : decode mX9_init.2.1 1 = .ok (.invokespecial 3, 3) := by decide +kernel
theorem dX9_init_4 : decode mX9_init.2.1 4 = .ok (.aload_n 0, 1) := by decide +kernel
theorem dX9_init_5 : decode mX9_init.2.1 5 = .ok (.bipush 40, 2) := by decide +kernel
theorem dX9_init_7 : decode mX9_init.2.1 7 = .ok (.newarray .int, 2) := by decide +kernel
theorem dX9_init_9 : decode mX9_init.2.1 9 = .ok (.putfield 11, 3) := by decide +kernel
theorem dX9_init_12 : decode mX9_init.2.1 12 = .ok (.aload_n 0, 1) := by decide +kernel
theorem dX9_init_13 : decode mX9_init.2.1 13 = .ok (.bipush 40, 2) := by decide +kernel
theorem dX9_init_15 : decode mX9_init.2.1 15 = .ok (.newarray .int, 2) := by decide +kernel
theorem dX9_init_17 : decode mX9_init.2.1 17 = .ok (.putfield 15, 3) := by decide +kernel
theorem dX9_init_20 : decode mX9_init.2.1 20 = .ok (.aload_n 0, 1) := by decide +kernel
theorem dX9_init_21 : decode mX9_init.2.1 21 = .ok (.bipush 40, 2) := by decide +kernel
theorem dX9_init_23 : decode mX9_init.2.1 23 = .ok (.newarray .boolean, 2) := by decide +kernel
theorem dX9_init_25 : decode mX9_init.2.1 25 = .ok (.putfield 18, 3) := by decide +kernel
theorem dX9_init_28 : decode mX9_init.2.1 28 = .ok (.aload_n 0, 1) := by decide +kernel
theorem dX9_init_29 : decode mX9_init.2.1 29 = .ok (.iconst 5, 1) := by decide +kernel
theorem dX9_init_30 : decode mX9_init.2.1 30 = .ok (.newarray .int, 2) := by decide +kernel
theorem dX9_init_32 : decode mX9_init.2.1 32 = .ok (.putfield 22, 3) := by decide +kernel
theorem dX9_init_35 : decode mX9_init.2.1 35 = .ok (.aload_n 0, 1) := by decide +kernel
theorem dX9_init_36 : decode mX9_init.2.1 36 = .ok (.bipush 20, 2) := by decide +kernel
theorem dX9_init_38 : decode mX9_init.2.1 38 = .ok (.newarray .int, 2) := by decide +kernel
theorem dX9_init_40 : decode mX9_init.2.1 40 = .ok (.putfield 25, 3) := by decide +kernel
theorem dX9_init_43 : decode mX9_init.2.1 43 = .ok (.aload_n 0, 1) := by decide +kernel
theorem dX9_init_44 : decode mX9_init.2.1 44 = .ok (.bipush 20, 2) := by decide +kernel
theorem dX9_init_46 : decode mX9_init.2.1 46 = .ok (.newarray .int, 2) := by decide +kernel
theorem dX9_init_48 : decode mX9_init.2.1 48 = .ok (.putfield 28, 3) := by decide +kernel
theorem dX9_init_51 : decode mX9_init.2.1 51 = .ok (.aload_n 0, 1) := by decide +kernel
theorem dX9_init_52 : decode mX9_init.2.1 52 = .ok (.bipush 20, 2) := by decide +kernel
theorem dX9_init_54 : decode mX9_init.2.1 54 = .ok (.newarray .int, 2) := by decide +kernel
theorem dX9_init_56 : decode mX9_init.2.1 56 = .ok (.putfield 31, 3) := by decide +kernel
theorem dX9_init_59 : decode mX9_init.2.1 59 = .ok (.aload_n 0, 1) := by decide +kernel
theorem dX9_init_60 : decode mX9_init.2.1 60 = .ok (.bipush 20, 2) := by decide +kernel
theorem dX9_init_62 : decode mX9_init.2.1 62 = .ok (.newarray .int, 2) := by decide +kernel
theorem dX9_init_64 : decode mX9_init.2.1 64 = .ok (.putfield 34, 3) := by decide +kernel
theorem dX9_init_67 : decode mX9_init.2.1 67 = .ok (.aload_n 0, 1) := by decide +kernel
theorem dX9_init_68 : decode mX9_init.2.1 68 = .ok (.iconst 0, 1) := by decide +kernel
theorem dX9_init_69 : decode mX9_init.2.1 69 = .ok (.putfield 37, 3) := by decide +kernel
theorem dX9_init_72 : decode mX9_init.2.1 72 = .ok (.aload_n 0, 1) := by decide +kernel
theorem dX9_init_73 : decode mX9_init.2.1 73 = .ok (.iconst 0, 1) := by decide +kernel
theorem dX9_init_74 : decode mX9_init.2.1 74 = .ok (.putfield 41, 3) := by decide +kernel
theorem dX9_init_77 : decode mX9_init.2.1 77 = .ok (.aload_n 0, 1) := by decide +kernel
theorem dX9_init_78 : decode mX9_init.2.1 78 = .ok (.iconst 0, 1) := by decide +kernel
theorem dX9_init_79 : decode mX9_init.2.1 79 = .ok (.putfield 44, 3) := by decide +kernel
theorem dX9_init_82 : decode mX9_init.2.1 82 = .ok (.aload_n 0, 1) := by decide +kernel
theorem dX9_init_83 : decode mX9_init.2.1 83 = .ok (.iconst 0, 1) := by decide +kernel
theorem dX9_init_84 : decode mX9_init.2.1 84 = .ok (.putfield 47, 3) := by decide +kernel
theorem dX9_init_87 : decode mX9_init.2.1 87 = .ok (.return_, 1) := by decide +kernel
theorem dX7_init_0 : decode mX7_init.2.1 0 = .ok (.aload_n 0, 1) := by decide +kernel
theorem dX7_init_1 : decode mX7_init.2.1 1 = .ok (.invokespecial 3, 3) := by decide +kernel
theorem dX7_init_4 : decode mX7_init.2.1 4 = .ok (.aload_n 0, 1) := by decide +kernel
theorem dX7_init_5 : decode mX7_init.2.1 5 = .ok (.iconst 5, 1) := by decide +kernel
theorem dX7_init_6 : decode mX7_init.2.1 6 = .ok (.newarray .int, 2) := by decide +kernel
theorem dX7_init_8 : decode mX7_init.2.1 8 = .ok (.putfield 11, 3) := by decide +kernel
theorem dX7_init_11 : decode mX7_init.2.1 11 = .ok (.aload_n 0, 1) := by decide +kernel
theorem dX7_init_12 : decode mX7_init.2.1 12 = .ok (.iconst 5, 1) := by decide +kernel
theorem dX7_init_13 : decode mX7_init.2.1 13 = .ok (.newarray .int, 2) := by decide +kernel
theorem dX7_init_15 : decode mX7_init.2.1 15 = .ok (.putfield 15, 3) := by decide +kernel
theorem dX7_init_18 : decode mX7_init.2.1 18 = .ok (.aload_n 0, 1) := by decide +kernel
theorem dX7_init_19 : decode mX7_init.2.1 19 = .ok (.iconst 5, 1) := by decide +kernel
theorem dX7_init_20 : decode mX7_init.2.1 20 = .ok (.newarray .int, 2) := by decide +kernel
theorem dX7_init_22 : decode mX7_init.2.1 22 = .ok (.putfield 18, 3) := by decide +kernel
theorem dX7_init_25 : decode mX7_init.2.1 25 = .ok (.aload_n 0, 1) := by decide +kernel
theorem dX7_init_26 : decode mX7_init.2.1 26 = .ok (.iconst 5, 1) := by decide +kernel
theorem dX7_init_27 : decode mX7_init.2.1 27 = .ok (.newarray .int, 2) := by decide +kernel
theorem dX7_init_29 : decode mX7_init.2.1 29 = .ok (.putfield 21, 3) := by decide +kernel
theorem dX7_init_32 : decode mX7_init.2.1 32 = .ok (.aload_n 0, 1) := by decide +kernel
theorem dX7_init_33 : decode mX7_init.2.1 33 = .ok (.iconst 5, 1) := by decide +kernel
theorem dX7_init_34 : decode mX7_init.2.1 34 = .ok (.newarray .int, 2) := by decide +kernel
theorem dX7_init_36 : decode mX7_init.2.1 36 = .ok (.putfield 24, 3) := by decide +kernel
theorem dX7_init_39 : decode mX7_init.2.1 39 = .ok (.aload_n 0, 1) := by decide +kernel
theorem dX7_init_40 : decode mX7_init.2.1 40 = .ok (.iconst 5, 1) := by decide +kernel
theorem dX7_init_41 : decode mX7_init.2.1 41 = .ok (.newarray .int, 2) := by decide +kernel
theorem dX7_init_43 : decode mX7_init.2.1 43 = .ok (.putfield 27, 3) := by decide +kernel
theorem dX7_init_46 : decode mX7_init.2.1 46 = .ok (.aload_n 0, 1) := by decide +kernel
theorem dX7_init_47 : decode mX7_init.2.1 47 = .ok (.iconst 5, 1) := by decide +kernel
theorem dX7_init_48 : decode mX7_init.2.1 48 = .ok (.newarray .int, 2) := by decide +kernel
theorem dX7_init_50 : decode mX7_init.2.1 50 = .ok (.putfield 32, 3) := by decide +kernel
theorem dX7_init_53 : decode mX7_init.2.1 53 = .ok (.aload_n 0, 1) := by decide +kernel
theorem dX7_init_54 : decode mX7_init.2.1 54 = .ok (.bipush 24, 2) := by decide +kernel
theorem dX7_init_56 : decode mX7_init.2.1 56 = .ok (.newarray .int, 2) := by decide +kernel
theorem dX7_init_58 : decode mX7_init.2.1 58 = .ok (.putfield 35, 3) := by decide +kernel
theorem dX7_init_61 : decode mX7_init.2.1 61 = .ok (.aload_n 0, 1) := by decide +kernel
theorem dX7_init_62 : decode mX7_init.2.1 62 = .ok (.iconst 0, 1) := by decide +kernel
theorem dX7_init_63 : decode mX7_init.2.1 63 = .ok (.putfield 38, 3) := by decide +kernel
theorem dX7_init_66 : decode mX7_init.2.1 66 = .ok (.aload_n 0, 1) := by decide +kernel
theorem dX7_init_67 : decode mX7_init.2.1 67 = .ok (.iconst 0, 1) := by decide +kernel
theorem dX7_init_68 : decode mX7_init.2.1 68 = .ok (.putfield 42, 3) := by decide +kernel
theorem dX7_init_71 : decode mX7_init.2.1 71 = .ok (.aload_n 0, 1) := by decide +kernel
theorem dX7_init_72 : decode mX7_init.2.1 72 = .ok (.iconst 0, 1) := by decide +kernel
theorem dX7_init_73 : decode mX7_init.2.1 73 = .ok (.putfield 45, 3) := by decide +kernel
theorem dX7_init_76 : decode mX7_init.2.1 76 = .ok (.aload_n 0, 1) := by decide +kernel
theorem dX7_init_77 : decode mX7_init.2.1 77 = .ok (.lconst 0, 1) := by decide +kernel
theorem dX7_init_78 : decode mX7_init.2.1 78 = .ok (.putfield 48, 3) := by decide +kernel
theorem dX7_init_81 : decode mX7_init.2.1 81 = .ok (.aload_n 0, 1) := by decide +kernel
theorem dX7_init_82 : decode mX7_init.2.1 82 = .ok (.aload_n 1, 1) := by decide +kernel
theorem dX7_init_83 : decode mX7_init.2.1 83 = .ok (.putfield 52, 3) := by decide +kernel
theorem dX7_init_86 : decode mX7_init.2.1 86 = .ok (.return_, 1) := by decide +kernel
theorem dX1_init_0 : decode mX1_init.2.1 0 = .ok (.aload_n 0, 1) := by decide +kernel
theorem dX1_init_1 : decode mX1_init.2.1 1 = .ok (.invokespecial 1, 3) := by decide +kernel
theorem dX1_init_4 : decode mX1_init.2.1 4 = .ok (.aload_n 0, 1) := by decide +kernel
theorem dX1_init_5 : decode mX1_init.2.1 5 = .ok (.bipush 6, 2) := by decide +kernel
theorem dX1_init_7 : decode mX1_init.2.1 7 = .ok (.anewarray 9, 3) := by decide +kernel
theorem dX1_init_10 : decode mX1_init.2.1 10 = .ok (.putfield 11, 3) := by decide +kernel
theorem dX1_init_13 : decode mX1_init.2.1 13 = .ok (.aload_n 0, 1) := by decide +kernel
theorem dX1_init_14 : decode mX1_init.2.1 14 = .ok (.bipush 10, 2) := by decide +kernel
theorem dX1_init_16 : decode mX1_init.2.1 16 = .ok (.newarray .int, 2) := by decide +kernel
theorem dX1_init_18 : decode mX1_init.2.1 18 = .ok (.putfield 15, 3) := by decide +kernel
theorem dX1_init_21 : decode mX1_init.2.1 21 = .ok (.aload_n 0, 1) := by decide +kernel
theorem dX1_init_22 : decode mX1_init.2.1 22 = .ok (.bipush 10, 2) := by decide +kernel
theorem dX1_init_24 : decode mX1_init.2.1 24 = .ok (.newarray .int, 2) := by decide +kernel
theorem dX1_init_26 : decode mX1_init.2.1 26 = .ok (.putfield 19, 3) := by decide +kernel
theorem dX1_init_29 : decode mX1_init.2.1 29 = .ok (.aload_n 0, 1) := by decide +kernel
theorem dX1_init_30 : decode mX1_init.2.1 30 = .ok (.bipush 10, 2) := by decide +kernel
theorem dX1_init_32 : decode mX1_init.2.1 32 = .ok (.newarray .int, 2) := by decide +kernel
theorem dX1_init_34 : decode mX1_init.2.1 34 = .ok (.putfield 22, 3) := by decide +kernel
theorem dX1_init_37 : decode mX1_init.2.1 37 = .ok (.aload_n 0, 1) := by decide +kernel
theorem dX1_init_38 : decode mX1_init.2.1 38 = .ok (.bipush 10, 2) := by decide +kernel
theorem dX1_init_40 : decode mX1_init.2.1 40 = .ok (.newarray .int, 2) := by decide +kernel
theorem dX1_init_42 : decode mX1_init.2.1 42 = .ok (.putfield 25, 3) := by decide +kernel
theorem dX1_init_45 : decode mX1_init.2.1 45 = .ok (.aload_n 0, 1) := by decide +kernel
theorem dX1_init_46 : decode mX1_init.2.1 46 = .ok (.iconst 0, 1) := by decide +kernel
theorem dX1_init_47 : decode mX1_init.2.1 47 = .ok (.putfield 28, 3) := by decide +kernel
theorem dX1_init_50 : decode mX1_init.2.1 50 = .ok (.aload_n 0, 1) := by decide +kernel
theorem dX1_init_51 : decode mX1_init.2.1 51 = .ok (.iconst 0, 1) := by decide +kernel
theorem dX1_init_52 : decode mX1_init.2.1 52 = .ok (.putfield 32, 3) := by decide +kernel
theorem dX1_init_55 : decode mX1_init.2.1 55 = .ok (.iconst 0, 1) := by decide +kernel
theorem dX1_init_56 : decode mX1_init.2.1 56 = .ok (.istore_n 1, 1) := by decide +kernel
theorem dX1_init_57 : decode mX1_init.2.1 57 = .ok (.iload_n 1, 1) := by decide +kernel
theorem dX1_init_58 : decode mX1_init.2.1 58 = .ok (.bipush 6, 2) := by decide +kernel
theorem dX1_init_60 : decode mX1_init.2.1 60 = .ok (.if_icmp .ge 22, 3) := by decide +kernel
theorem dX1_init_63 : decode mX1_init.2.1 63 = .ok (.aload_n 0, 1) := by decide +kernel
theorem dX1_init_64 : decode mX1_init.2.1 64 = .ok (.getfield 11, 3) := by decide +kernel
theorem dX1_init_67 : decode mX1_init.2.1 67 = .ok (.iload_n 1, 1) := by decide +kernel
theorem dX1_init_68 : decode mX1_init.2.1 68 = .ok (.new 9, 3) := by decide +kernel
theorem dX1_init_71 : decode mX1_init.2.1 71 = .ok (.dup, 1) := by decide +kernel
theorem dX1_init_72 : decode mX1_init.2.1 72 = .ok (.invokespecial 35, 3) := by decide +kernel
theorem dX1_init_75 : decode mX1_init.2.1 75 = .ok (.aastore, 1) := by decide +kernel
theorem dX1_init_76 : decode mX1_init.2.1 76 = .ok (.iinc 1 1, 3) := by decide +kernel
theorem dX1_init_79 : decode mX1_init.2.1 79 = .ok (.goto (-22), 3) := by decide +kernel
theorem dX1_init_82 : decode mX1_init.2.1 82 = .ok (.return_, 1) := by decide +kernel
theorem dX2_init_0 : decode mX2_init.2.1 0 = .ok (.aload_n 0, 1) := by decide +kernel
theorem dX2_init_1 : decode mX2_init.2.1 1 = .ok (.invokespecial 3, 3) := by decide +kernel
theorem dX2_init_4 : decode mX2_init.2.1 4 = .ok (.aload_n 0, 1) := by decide +kernel
theorem dX2_init_5 : decode mX2_init.2.1 5 = .ok (.bipush 40, 2) := by decide +kernel
theorem dX2_init_7 : decode mX2_init.2.1 7 = .ok (.newarray .int, 2) := by decide +kernel
theorem dX2_init_9 : decode mX2_init.2.1 9 = .ok (.putfield 11, 3) := by decide +kernel
theorem dX2_init_12 : decode mX2_init.2.1 12 = .ok (.aload_n 0, 1) := by decide +kernel
theorem dX2_init_13 : decode mX2_init.2.1 13 = .ok (.bipush 40, 2) := by decide +kernel
theorem dX2_init_15 : decode mX2_init.2.1 15 = .ok (.newarray .int, 2) := by decide +kernel
theorem dX2_init_17 : decode mX2_init.2.1 17 = .ok (.putfield 15, 3) := by decide +kernel
theorem dX2_init_20 : decode mX2_init.2.1 20 = .ok (.aload_n 0, 1) := by decide +kernel
theorem dX2_init_21 : decode mX2_init.2.1 21 = .ok (.bipush 40, 2) := by decide +kernel
theorem dX2_init_23 : decode mX2_init.2.1 23 = .ok (.newarray .int, 2) := by decide +kernel
theorem dX2_init_25 : decode mX2_init.2.1 25 = .ok (.putfield 18, 3) := by decide +kernel
theorem dX2_init_28 : decode mX2_init.2.1 28 = .ok (.aload_n 0, 1) := by decide +kernel
theorem dX2_init_29 : decode mX2_init.2.1 29 = .ok (.bipush 40, 2) := by decide +kernel
theorem dX2_init_31 : decode mX2_init.2.1 31 = .ok (.newarray .int, 2) := by decide +kernel
theorem dX2_init_33 : decode mX2_init.2.1 33 = .ok (.putfield 21, 3) := by decide +kernel
theorem dX2_init_36 : decode mX2_init.2.1 36 = .ok (.aload_n 0, 1) := by decide +kernel
theorem dX2_init_37 : decode mX2_init.2.1 37 = .ok (.bipush 40, 2) := by decide +kernel
theorem dX2_init_39 : decode mX2_init.2.1 39 = .ok (.newarray .int, 2) := by decide +kernel
theorem dX2_init_41 : decode mX2_init.2.1 41 = .ok (.putfield 24, 3) := by decide +kernel
theorem dX2_init_44 : decode mX2_init.2.1 44 = .ok (.aload_n 0, 1) := by decide +kernel
theorem dX2_init_45 : decode mX2_init.2.1 45 = .ok (.bipush 40, 2) := by decide +kernel
theorem dX2_init_47 : decode mX2_init.2.1 47 = .ok (.newarray .int, 2) := by decide +kernel
theorem dX2_init_49 : decode mX2_init.2.1 49 = .ok (.putfield 27, 3) := by decide +kernel
theorem dX2_init_52 : decode mX2_init.2.1 52 = .ok (.aload_n 0, 1) := by decide +kernel
theorem dX2_init_53 : decode mX2_init.2.1 53 = .ok (.bipush 40, 2) := by decide +kernel
theorem dX2_init_55 : decode mX2_init.2.1 55 = .ok (.newarray .int, 2) := by decide +kernel
theorem dX2_init_57 : decode mX2_init.2.1 57 = .ok (.putfield 30, 3) := by decide +kernel
theorem dX2_init_60 : decode mX2_init.2.1 60 = .ok (.aload_n 0, 1) := by decide +kernel
theorem dX2_init_61 : decode mX2_init.2.1 61 = .ok (.bipush 40, 2) := by decide +kernel
theorem dX2_init_63 : decode mX2_init.2.1 63 = .ok (.newarray .int, 2) := by decide +kernel
theorem dX2_init_65 : decode mX2_init.2.1 65 = .ok (.putfield 33, 3) := by decide +kernel
theorem dX2_init_68 : decode mX2_init.2.1 68 = .ok (.aload_n 0, 1) := by decide +kernel
theorem dX2_init_69 : decode mX2_init.2.1 69 = .ok (.bipush 40, 2) := by decide +kernel
theorem dX2_init_71 : decode mX2_init.2.1 71 = .ok (.newarray .long, 2) := by decide +kernel
theorem dX2_init_73 : decode mX2_init.2.1 73 = .ok (.putfield 36, 3) := by decide +kernel
theorem dX2_init_76 : decode mX2_init.2.1 76 = .ok (.aload_n 0, 1) := by decide +kernel
theorem dX2_init_77 : decode mX2_init.2.1 77 = .ok (.bipush 40, 2) := by decide +kernel
theorem dX2_init_79 : decode mX2_init.2.1 79 = .ok (.newarray .long, 2) := by decide +kernel
theorem dX2_init_81 : decode mX2_init.2.1 81 = .ok (.putfield 40, 3) := by decide +kernel
theorem dX2_init_84 : decode mX2_init.2.1 84 = .ok (.aload_n 0, 1) := by decide +kernel
theorem dX2_init_85 : decode mX2_init.2.1 85 = .ok (.bipush 40, 2) := by decide +kernel
theorem dX2_init_87 : decode mX2_init.2.1 87 = .ok (.newarray .long, 2) := by decide +kernel
theorem dX2_init_89 : decode mX2_init.2.1 89 = .ok (.putfield 43, 3) := by decide +kernel
theorem dX2_init_92 : decode mX2_init.2.1 92 = .ok (.aload_n 0, 1) := by decide +kernel
theorem dX2_init_93 : decode mX2_init.2.1 93 = .ok (.bipush 40, 2) := by decide +kernel
theorem dX2_init_95 : decode mX2_init.2.1 95 = .ok (.newarray .int, 2) := by decide +kernel
theorem dX2_init_97 : decode mX2_init.2.1 97 = .ok (.putfield 46, 3) := by decide +kernel
theorem dX2_init_100 : decode mX2_init.2.1 100 = .ok (.aload_n 0, 1) := by decide +kernel
theorem dX2_init_101 : decode mX2_init.2.1 101 = .ok (.bipush 40, 2) := by decide +kernel
theorem dX2_init_103 : decode mX2_init.2.1 103 = .ok (.newarray .int, 2) := by decide +kernel
theorem dX2_init_105 : decode mX2_init.2.1 105 = .ok (.putfield 49, 3) := by decide +kernel
theorem dX2_init_108 : decode mX2_init.2.1 108 = .ok (.aload_n 0, 1) := by decide +kernel
theorem dX2_init_109 : decode mX2_init.2.1 109 = .ok (.bipush 40, 2) := by decide +kernel
theorem dX2_init_111 : decode mX2_init.2.1 111 = .ok (.newarray .int, 2) := by decide +kernel
theorem dX2_init_113 : decode mX2_init.2.1 113 = .ok (.putfield 52, 3) := by decide +kernel
theorem dX2_init_116 : decode mX2_init.2.1 116 = .ok (.aload_n 0, 1) := by decide +kernel
theorem dX2_init_117 : decode mX2_init.2.1 117 = .ok (.bipush 40, 2) := by decide +kernel
theorem dX2_init_119 : decode mX2_init.2.1 119 = .ok (.newarray .int, 2) := by decide +kernel
theorem dX2_init_121 : decode mX2_init.2.1 121 = .ok (.putfield 55, 3) := by decide +kernel
theorem dX2_init_124 : decode mX2_init.2.1 124 = .ok (.aload_n 0, 1) := by decide +kernel
theorem dX2_init_125 : decode mX2_init.2.1 125 = .ok (.bipush 40, 2) := by decide +kernel
theorem dX2_init_127 : decode mX2_init.2.1 127 = .ok (.newarray .long, 2) := by decide +kernel
theorem dX2_init_129 : decode mX2_init.2.1 129 = .ok (.putfield 58, 3) := by decide +kernel
theorem dX2_init_132 : decode mX2_init.2.1 132 = .ok (.aload_n 0, 1) := by decide +kernel
theorem dX2_init_133 : decode mX2_init.2.1 133 = .ok (.lconst 0, 1) := by decide +kernel
theorem dX2_init_134 : decode mX2_init.2.1 134 = .ok (.putfield 61, 3) := by decide +kernel
theorem dX2_init_137 : decode mX2_init.2.1 137 = .ok (.aload_n 0, 1) := by decide +kernel
theorem dX2_init_138 : decode mX2_init.2.1 138 = .ok (.lconst 0, 1) := by decide +kernel
theorem dX2_init_139 : decode mX2_init.2.1 139 = .ok (.putfield 65, 3) := by decide +kernel
theorem dX2_init_142 : decode mX2_init.2.1 142 = .ok (.aload_n 0, 1) := by decide +kernel
theorem dX2_init_143 : decode mX2_init.2.1 143 = .ok (.iconst 0, 1) := by decide +kernel
theorem dX2_init_144 : decode mX2_init.2.1 144 = .ok (.putfield 68, 3) := by decide +kernel
theorem dX2_init_147 : decode mX2_init.2.1 147 = .ok (.aload_n 0, 1) := by decide +kernel
theorem dX2_init_148 : decode mX2_init.2.1 148 = .ok (.iconst 0, 1) := by decide +kernel
theorem dX2_init_149 : decode mX2_init.2.1 149 = .ok (.putfield 72, 3) := by decide +kernel
theorem dX2_init_152 : decode mX2_init.2.1 152 = .ok (.return_, 1) := by decide +kernel
theorem dX11_init_0 : decode mX11_init.2.1 0 = .ok (.aload_n 0, 1) := by decide +kernel
theorem dX11_init_1 : decode mX11_init.2.1 1 = .ok (.invokespecial 1, 3) := by decide +kernel
theorem dX11_init_4 : decode mX11_init.2.1 4 = .ok (.aload_n 0, 1) := by decide +kernel
theorem dX11_init_5 : decode mX11_init.2.1 5 = .ok (.new 7, 3) := by decide +kernel
theorem dX11_init_8 : decode mX11_init.2.1 8 = .ok (.dup, 1) := by decide +kernel
theorem dX11_init_9 : decode mX11_init.2.1 9 = .ok (.invokespecial 9, 3) := by decide +kernel
theorem dX11_init_12 : decode mX11_init.2.1 12 = .ok (.putfield 10, 3) := by decide +kernel
theorem dX11_init_15 : decode mX11_init.2.1 15 = .ok (.aload_n 0, 1) := by decide +kernel
theorem dX11_init_16 : decode mX11_init.2.1 16 = .ok (.new 16, 3) := by decide +kernel
theorem dX11_init_19 : decode mX11_init.2.1 19 = .ok (.dup, 1) := by decide +kernel
theorem dX11_init_20 : decode mX11_init.2.1 20 = .ok (.invokespecial 18, 3) := by decide +kernel
theorem dX11_init_23 : decode mX11_init.2.1 23 = .ok (.putfield 19, 3) := by decide +kernel
theorem dX11_init_26 : decode mX11_init.2.1 26 = .ok (.aload_n 0, 1) := by decide +kernel
theorem dX11_init_27 : decode mX11_init.2.1 27 = .ok (.new 23, 3) := by decide +kernel
theorem dX11_init_30 : decode mX11_init.2.1 30 = .ok (.dup, 1) := by decide +kernel
theorem dX11_init_31 : decode mX11_init.2.1 31 = .ok (.invokespecial 25, 3) := by decide +kernel
theorem dX11_init_34 : decode mX11_init.2.1 34 = .ok (.putfield 26, 3) := by decide +kernel
theorem dX11_init_37 : decode mX11_init.2.1 37 = .ok (.aload_n 0, 1) := by decide +kernel
theorem dX11_init_38 : decode mX11_init.2.1 38 = .ok (.new 30, 3) := by decide +kernel
theorem dX11_init_41 : decode mX11_init.2.1 41 = .ok (.dup, 1) := by decide +kernel
theorem dX11_init_42 : decode mX11_init.2.1 42 = .ok (.invokespecial 32, 3) := by decide +kernel
theorem dX11_init_45 : decode mX11_init.2.1 45 = .ok (.putfield 33, 3) := by decide +kernel
theorem dX11_init_48 : decode mX11_init.2.1 48 = .ok (.aload_n 0, 1) := by decide +kernel
theorem dX11_init_49 : decode mX11_init.2.1 49 = .ok (.new 37, 3) := by decide +kernel
theorem dX11_init_52 : decode mX11_init.2.1 52 = .ok (.dup, 1) := by decide +kernel
theorem dX11_init_53 : decode mX11_init.2.1 53 = .ok (.aload_n 0, 1) := by decide +kernel
theorem dX11_init_54 : decode mX11_init.2.1 54 = .ok (.getfield 33, 3) := by decide +kernel
theorem dX11_init_57 : decode mX11_init.2.1 57 = .ok (.aload_n 0, 1) := by decide +kernel
theorem dX11_init_58 : decode mX11_init.2.1 58 = .ok (.getfield 26, 3) := by decide +kernel
theorem dX11_init_61 : decode mX11_init.2.1 61 = .ok (.invokespecial 39, 3) := by decide +kernel
theorem dX11_init_64 : decode mX11_init.2.1 64 = .ok (.putfield 42, 3) := by decide +kernel
theorem dX11_init_67 : decode mX11_init.2.1 67 = .ok (.aload_n 0, 1) := by decide +kernel
theorem dX11_init_68 : decode mX11_init.2.1 68 = .ok (.new 46, 3) := by decide +kernel
theorem dX11_init_71 : decode mX11_init.2.1 71 = .ok (.dup, 1) := by decide +kernel
theorem dX11_init_72 : decode mX11_init.2.1 72 = .ok (.invokespecial 48, 3) := by decide +kernel
theorem dX11_init_75 : decode mX11_init.2.1 75 = .ok (.putfield 49, 3) := by decide +kernel
theorem dX11_init_78 : decode mX11_init.2.1 78 = .ok (.aload_n 0, 1) := by decide +kernel
theorem dX11_init_79 : decode mX11_init.2.1 79 = .ok (.new 53, 3) := by decide +kernel
theorem dX11_init_82 : decode mX11_init.2.1 82 = .ok (.dup, 1) := by decide +kernel
theorem dX11_init_83 : decode mX11_init.2.1 83 = .ok (.aload_n 0, 1) := by decide +kernel
theorem dX11_init_84 : decode mX11_init.2.1 84 = .ok (.getfield 49, 3) := by decide +kernel
theorem dX11_init_87 : decode mX11_init.2.1 87 = .ok (.invokespecial 55, 3) := by decide +kernel
theorem dX11_init_90 : decode mX11_init.2.1 90 = .ok (.putfield 58, 3) := by decide +kernel
theorem dX11_init_93 : decode mX11_init.2.1 93 = .ok (.aload_n 0, 1) := by decide +kernel
theorem dX11_init_94 : decode mX11_init.2.1 94 = .ok (.bipush 100, 2) := by decide +kernel
theorem dX11_init_96 : decode mX11_init.2.1 96 = .ok (.newarray .int, 2) := by decide +kernel
theorem dX11_init_98 : decode mX11_init.2.1 98 = .ok (.putfield 62, 3) := by decide +kernel
theorem dX11_init_101 : decode mX11_init.2.1 101 = .ok (.aload_n 0, 1) := by decide +kernel
theorem dX11_init_102 : decode mX11_init.2.1 102 = .ok (.bipush 100, 2) := by decide +kernel
theorem dX11_init_104 : decode mX11_init.2.1 104 = .ok (.newarray .int, 2) := by decide +kernel
theorem dX11_init_106 : decode mX11_init.2.1 106 = .ok (.putfield 66, 3) := by decide +kernel
theorem dX11_init_109 : decode mX11_init.2.1 109 = .ok (.aload_n 0, 1) := by decide +kernel
theorem dX11_init_110 : decode mX11_init.2.1 110 = .ok (.bipush 100, 2) := by decide +kernel
theorem dX11_init_112 : decode mX11_init.2.1 112 = .ok (.newarray .int, 2) := by decide +kernel
theorem dX11_init_114 : decode mX11_init.2.1 114 = .ok (.putfield 69, 3) := by decide +kernel
theorem dX11_init_117 : decode mX11_init.2.1 117 = .ok (.aload_n 0, 1) := by decide +kernel
theorem dX11_init_118 : decode mX11_init.2.1 118 = .ok (.bipush 60, 2) := by decide +kernel
theorem dX11_init_120 : decode mX11_init.2.1 120 = .ok (.newarray .int, 2) := by decide +kernel
theorem dX11_init_122 : decode mX11_init.2.1 122 = .ok (.putfield 72, 3) := by decide +kernel
theorem dX11_init_125 : decode mX11_init.2.1 125 = .ok (.aload_n 0, 1) := by decide +kernel
theorem dX11_init_126 : decode mX11_init.2.1 126 = .ok (.iconst 0, 1) := by decide +kernel
theorem dX11_init_127 : decode mX11_init.2.1 127 = .ok (.putfield 75, 3) := by decide +kernel
theorem dX11_init_130 : decode mX11_init.2.1 130 = .ok (.aload_n 0, 1) := by decide +kernel
theorem dX11_init_131 : decode mX11_init.2.1 131 = .ok (.iconst 0, 1) := by decide +kernel
theorem dX11_init_132 : decode mX11_init.2.1 132 = .ok (.putfield 79, 3) := by decide +kernel
theorem dX11_init_135 : decode mX11_init.2.1 135 = .ok (.return_, 1) := by decide +kernel
