-- decode rows and words of methods walked by hand
theorem wd_125 : Cond.initialized "java/lang/StringLatin1" ∈ am_TW := am_tk1 (List.mem_of_getElem? (i := 14) (by decide +kernel)) rfl
theorem wd_126 : Cond.initialized "jdk/internal/util/Preconditions" ∈ am_TW := am_tk1 (List.mem_of_getElem? (i := 15) (by decide +kernel)) rfl
theorem wd_127 : Cond.initialized "java/lang/StringUTF16" ∈ am_TW := am_tk1 (List.mem_of_getElem? (i := 16) (by decide +kernel)) rfl
theorem wd_725 : Cond.methodLink "java/lang/String" 335 ⟨"java/lang/String", "coder", "()B"⟩ ∈ am_TW := am_tk3 (List.mem_of_getElem? (i := 134) (by decide +kernel)) rfl
theorem wd_726 : Cond.instanceMethod ⟨"java/lang/String", "coder", "()B"⟩ ∈ am_TW := am_tk3 (List.mem_of_getElem? (i := 135) (by decide +kernel)) rfl
theorem wd_727 : Cond.selects "java/lang/String" ⟨"java/lang/String", "coder", "()B"⟩ ⟨"java/lang/String", "coder", "()B"⟩ ∈ am_TW := am_tk3 (List.mem_of_getElem? (i := 136) (by decide +kernel)) rfl
theorem wd_729 : Cond.fieldLink "java/lang/String" 38 "java/lang/String" "COMPACT_STRINGS" "Z" ∈ am_TW := am_tk3 (List.mem_of_getElem? (i := 138) (by decide +kernel)) rfl
theorem wd_735 : Cond.methodLink "java/lang/String" 492 ⟨"java/lang/String", "isLatin1", "()Z"⟩ ∈ am_TW := am_tk3 (List.mem_of_getElem? (i := 144) (by decide +kernel)) rfl
theorem wd_736 : Cond.instanceMethod ⟨"java/lang/String", "isLatin1", "()Z"⟩ ∈ am_TW := am_tk3 (List.mem_of_getElem? (i := 145) (by decide +kernel)) rfl
theorem wd_737 : Cond.selects "java/lang/String" ⟨"java/lang/String", "isLatin1", "()Z"⟩ ⟨"java/lang/String", "isLatin1", "()Z"⟩ ∈ am_TW := am_tk3 (List.mem_of_getElem? (i := 146) (by decide +kernel)) rfl
theorem wd_739 : Cond.methodLink "java/lang/String" 495 ⟨"java/lang/StringLatin1", "charAt", "([BI)C"⟩ ∈ am_TW := am_tk3 (List.mem_of_getElem? (i := 148) (by decide +kernel)) rfl
theorem wd_740 : Cond.static ⟨"java/lang/StringLatin1", "charAt", "([BI)C"⟩ ∈ am_TW := am_tk3 (List.mem_of_getElem? (i := 149) (by decide +kernel)) rfl
theorem wd_742 : Cond.methodLink "java/lang/StringLatin1" 9 ⟨"java/lang/String", "checkIndex", "(II)V"⟩ ∈ am_TW := am_tk3 (List.mem_of_getElem? (i := 151) (by decide +kernel)) rfl
theorem wd_743 : Cond.static ⟨"java/lang/String", "checkIndex", "(II)V"⟩ ∈ am_TW := am_tk3 (List.mem_of_getElem? (i := 152) (by decide +kernel)) rfl
theorem wd_745 : Cond.fieldLink "java/lang/String" 1053 "jdk/internal/util/Preconditions" "SIOOBE_FORMATTER" "Ljava/util/function/BiFunction;" ∈ am_TW := am_tk3 (List.mem_of_getElem? (i := 154) (by decide +kernel)) rfl
theorem wd_747 : Cond.methodLink "java/lang/String" 1059 ⟨"jdk/internal/util/Preconditions", "checkIndex", "(IILjava/util/function/BiFunction;)I"⟩ ∈ am_TW := am_tk3 (List.mem_of_getElem? (i := 156) (by decide +kernel)) rfl
theorem wd_748 : Cond.static ⟨"jdk/internal/util/Preconditions", "checkIndex", "(IILjava/util/function/BiFunction;)I"⟩ ∈ am_TW := am_tk3 (List.mem_of_getElem? (i := 157) (by decide +kernel)) rfl
theorem wd_750 : Cond.methodLink "java/lang/String" 498 ⟨"java/lang/StringUTF16", "charAt", "([BI)C"⟩ ∈ am_TW := am_tk3 (List.mem_of_getElem? (i := 159) (by decide +kernel)) rfl
theorem wd_751 : Cond.static ⟨"java/lang/StringUTF16", "charAt", "([BI)C"⟩ ∈ am_TW := am_tk3 (List.mem_of_getElem? (i := 160) (by decide +kernel)) rfl
theorem wd_2463 : Cond.fieldLink "java/lang/String" 9 "java/lang/String" "value" "[B" ∈ am_TW := am_tk10 (List.mem_of_getElem? (i := 192) (by decide +kernel)) rfl
theorem wd_2464 : Cond.fieldLink "java/lang/String" 15 "java/lang/String" "coder" "B" ∈ am_TW := am_tk10 (List.mem_of_getElem? (i := 193) (by decide +kernel)) rfl
theorem wc_J0_checkIndex_df160 : am_code mJ0_checkIndex_df160 := am_tk3 (List.mem_of_getElem? (i := 153) (by decide +kernel)) rfl
theorem wc_J0_coder_7d493 : am_code mJ0_coder_7d493 := am_tk3 (List.mem_of_getElem? (i := 137) (by decide +kernel)) rfl
theorem wc_J0_isLatin1_aae02 : am_code mJ0_isLatin1_aae02 := am_tk3 (List.mem_of_getElem? (i := 147) (by decide +kernel)) rfl
theorem wc_J1_charAt_3b067 : am_code mJ1_charAt_3b067 := am_tk3 (List.mem_of_getElem? (i := 150) (by decide +kernel)) rfl
theorem wc_J2_charAt_3b067 : am_code mJ2_charAt_3b067 := am_tk3 (List.mem_of_getElem? (i := 161) (by decide +kernel)) rfl
theorem wc_J3_checkIndex_8e157 : am_code mJ3_checkIndex_8e157 := am_tk3 (List.mem_of_getElem? (i := 158) (by decide +kernel)) rfl
theorem ds_J0_checkIndex_df160 : am_ds mJ0_checkIndex_df160 2 := ⟨by decide, by decide, by decide +kernel⟩
theorem ds_J0_coder_7d493 : am_ds mJ0_coder_7d493 0 := ⟨by decide, by decide, by decide +kernel⟩
theorem ds_J0_isLatin1_aae02 : am_ds mJ0_isLatin1_aae02 0 := ⟨by decide, by decide, by decide +kernel⟩
theorem ds_J1_charAt_3b067 : am_ds mJ1_charAt_3b067 2 := ⟨by decide, by decide, by decide +kernel⟩
theorem ds_J2_charAt_3b067 : am_ds mJ2_charAt_3b067 2 := ⟨by decide, by decide, by decide +kernel⟩
theorem ds_J3_checkIndex_8e157 : am_ds mJ3_checkIndex_8e157 3 := ⟨by decide, by decide, by decide +kernel⟩
-- java/lang/String.length()I
theorem dJ0_length_8abf5_0 : decode mJ0_length_8abf5.2.1 0 = .ok (.aload_n 0, 1) := by decide +kernel
theorem dJ0_length_8abf5_1 : decode mJ0_length_8abf5.2.1 1 = .ok (.getfield 9, 3) := by decide +kernel
-- 1 getfield value: wd_2463
theorem dJ0_length_8abf5_4 : decode mJ0_length_8abf5.2.1 4 = .ok (.arraylength, 1) := by decide +kernel
theorem dJ0_length_8abf5_5 : decode mJ0_length_8abf5.2.1 5 = .ok (.aload_n 0, 1) := by decide +kernel
theorem dJ0_length_8abf5_6 : decode mJ0_length_8abf5.2.1 6 = .ok (.invokevirtual 335, 3) := by decide +kernel
-- 6 invokevirtual J0_coder_7d493: link wd_725 init wd_124 inst wd_726 sel wd_727
theorem dJ0_length_8abf5_9 : decode mJ0_length_8abf5.2.1 9 = .ok (.ishr, 1) := by decide +kernel
theorem dJ0_length_8abf5_10 : decode mJ0_length_8abf5.2.1 10 = .ok (.ireturn, 1) := by decide +kernel
-- java/lang/String.coder()B
theorem dJ0_coder_7d493_0 : decode mJ0_coder_7d493.2.1 0 = .ok (.getstatic 38, 3) := by decide +kernel
-- 0 getstatic COMPACT_STRINGS: wd_729
theorem dJ0_coder_7d493_3 : decode mJ0_coder_7d493.2.1 3 = .ok (.ifCond .eq 10, 3) := by decide +kernel
theorem dJ0_coder_7d493_6 : decode mJ0_coder_7d493.2.1 6 = .ok (.aload_n 0, 1) := by decide +kernel
theorem dJ0_coder_7d493_7 : decode mJ0_coder_7d493.2.1 7 = .ok (.getfield 15, 3) := by decide +kernel
-- 7 getfield coder: wd_2464
theorem dJ0_coder_7d493_10 : decode mJ0_coder_7d493.2.1 10 = .ok (.goto 4, 3) := by decide +kernel
theorem dJ0_coder_7d493_13 : decode mJ0_coder_7d493.2.1 13 = .ok (.iconst 1, 1) := by decide +kernel
theorem dJ0_coder_7d493_14 : decode mJ0_coder_7d493.2.1 14 = .ok (.ireturn, 1) := by decide +kernel
-- java/lang/String.charAt(I)C
theorem dJ0_charAt_5068e_0 : decode mJ0_charAt_5068e.2.1 0 = .ok (.aload_n 0, 1) := by decide +kernel
theorem dJ0_charAt_5068e_1 : decode mJ0_charAt_5068e.2.1 1 = .ok (.invokevirtual 492, 3) := by decide +kernel
-- 1 invokevirtual J0_isLatin1_aae02: link wd_735 init wd_124 inst wd_736 sel wd_737
theorem dJ0_charAt_5068e_4 : decode mJ0_charAt_5068e.2.1 4 = .ok (.ifCond .eq 12, 3) := by decide +kernel
theorem dJ0_charAt_5068e_7 : decode mJ0_charAt_5068e.2.1 7 = .ok (.aload_n 0, 1) := by decide +kernel
theorem dJ0_charAt_5068e_8 : decode mJ0_charAt_5068e.2.1 8 = .ok (.getfield 9, 3) := by decide +kernel
-- 8 getfield value: wd_2463
theorem dJ0_charAt_5068e_11 : decode mJ0_charAt_5068e.2.1 11 = .ok (.iload_n 1, 1) := by decide +kernel
theorem dJ0_charAt_5068e_12 : decode mJ0_charAt_5068e.2.1 12 = .ok (.invokestatic 495, 3) := by decide +kernel
-- 12 invokestatic J1_charAt_3b067: link wd_739 init wd_125 static wd_740
theorem dJ0_charAt_5068e_15 : decode mJ0_charAt_5068e.2.1 15 = .ok (.ireturn, 1) := by decide +kernel
theorem dJ0_charAt_5068e_16 : decode mJ0_charAt_5068e.2.1 16 = .ok (.aload_n 0, 1) := by decide +kernel
theorem dJ0_charAt_5068e_17 : decode mJ0_charAt_5068e.2.1 17 = .ok (.getfield 9, 3) := by decide +kernel
-- 17 getfield value: wd_2463
theorem dJ0_charAt_5068e_20 : decode mJ0_charAt_5068e.2.1 20 = .ok (.iload_n 1, 1) := by decide +kernel
theorem dJ0_charAt_5068e_21 : decode mJ0_charAt_5068e.2.1 21 = .ok (.invokestatic 498, 3) := by decide +kernel
-- 21 invokestatic J2_charAt_3b067: link wd_750 init wd_127 static wd_751
theorem dJ0_charAt_5068e_24 : decode mJ0_charAt_5068e.2.1 24 = .ok (.ireturn, 1) := by decide +kernel
-- java/lang/String.isLatin1()Z
theorem dJ0_isLatin1_aae02_0 : decode mJ0_isLatin1_aae02.2.1 0 = .ok (.getstatic 38, 3) := by decide +kernel
-- 0 getstatic COMPACT_STRINGS: wd_729
theorem dJ0_isLatin1_aae02_3 : decode mJ0_isLatin1_aae02.2.1 3 = .ok (.ifCond .eq 14, 3) := by decide +kernel
theorem dJ0_isLatin1_aae02_6 : decode mJ0_isLatin1_aae02.2.1 6 = .ok (.aload_n 0, 1) := by decide +kernel
theorem dJ0_isLatin1_aae02_7 : decode mJ0_isLatin1_aae02.2.1 7 = .ok (.getfield 15, 3) := by decide +kernel
-- 7 getfield coder: wd_2464
theorem dJ0_isLatin1_aae02_10 : decode mJ0_isLatin1_aae02.2.1 10 = .ok (.ifCond .ne 7, 3) := by decide +kernel
theorem dJ0_isLatin1_aae02_13 : decode mJ0_isLatin1_aae02.2.1 13 = .ok (.iconst 1, 1) := by decide +kernel
theorem dJ0_isLatin1_aae02_14 : decode mJ0_isLatin1_aae02.2.1 14 = .ok (.goto 4, 3) := by decide +kernel
theorem dJ0_isLatin1_aae02_17 : decode mJ0_isLatin1_aae02.2.1 17 = .ok (.iconst 0, 1) := by decide +kernel
theorem dJ0_isLatin1_aae02_18 : decode mJ0_isLatin1_aae02.2.1 18 = .ok (.ireturn, 1) := by decide +kernel
-- java/lang/StringLatin1.charAt([BI)C
theorem dJ1_charAt_3b067_0 : decode mJ1_charAt_3b067.2.1 0 = .ok (.iload_n 1, 1) := by decide +kernel
theorem dJ1_charAt_3b067_1 : decode mJ1_charAt_3b067.2.1 1 = .ok (.aload_n 0, 1) := by decide +kernel
theorem dJ1_charAt_3b067_2 : decode mJ1_charAt_3b067.2.1 2 = .ok (.arraylength, 1) := by decide +kernel
theorem dJ1_charAt_3b067_3 : decode mJ1_charAt_3b067.2.1 3 = .ok (.invokestatic 9, 3) := by decide +kernel
-- 3 invokestatic J0_checkIndex_df160: link wd_742 init wd_124 static wd_743
theorem dJ1_charAt_3b067_6 : decode mJ1_charAt_3b067.2.1 6 = .ok (.aload_n 0, 1) := by decide +kernel
theorem dJ1_charAt_3b067_7 : decode mJ1_charAt_3b067.2.1 7 = .ok (.iload_n 1, 1) := by decide +kernel
theorem dJ1_charAt_3b067_8 : decode mJ1_charAt_3b067.2.1 8 = .ok (.baload, 1) := by decide +kernel
theorem dJ1_charAt_3b067_9 : decode mJ1_charAt_3b067.2.1 9 = .ok (.sipush 255, 3) := by decide +kernel
theorem dJ1_charAt_3b067_12 : decode mJ1_charAt_3b067.2.1 12 = .ok (.iand, 1) := by decide +kernel
theorem dJ1_charAt_3b067_13 : decode mJ1_charAt_3b067.2.1 13 = .ok (.i2c, 1) := by decide +kernel
theorem dJ1_charAt_3b067_14 : decode mJ1_charAt_3b067.2.1 14 = .ok (.ireturn, 1) := by decide +kernel
-- java/lang/String.checkIndex(II)V
theorem dJ0_checkIndex_df160_0 : decode mJ0_checkIndex_df160.2.1 0 = .ok (.iload_n 0, 1) := by decide +kernel
theorem dJ0_checkIndex_df160_1 : decode mJ0_checkIndex_df160.2.1 1 = .ok (.iload_n 1, 1) := by decide +kernel
theorem dJ0_checkIndex_df160_2 : decode mJ0_checkIndex_df160.2.1 2 = .ok (.getstatic 1053, 3) := by decide +kernel
-- 2 getstatic SIOOBE_FORMATTER: wd_745
theorem dJ0_checkIndex_df160_5 : decode mJ0_checkIndex_df160.2.1 5 = .ok (.invokestatic 1059, 3) := by decide +kernel
-- 5 invokestatic J3_checkIndex_8e157: link wd_747 init wd_126 static wd_748
theorem dJ0_checkIndex_df160_8 : decode mJ0_checkIndex_df160.2.1 8 = .ok (.pop, 1) := by decide +kernel
theorem dJ0_checkIndex_df160_9 : decode mJ0_checkIndex_df160.2.1 9 = .ok (.return_, 1) := by decide +kernel
-- jdk/internal/util/Preconditions.checkIndex(IILjava/util/function/BiFunction;)I
theorem dJ3_checkIndex_8e157_0 : decode mJ3_checkIndex_8e157.2.1 0 = .ok (.iload_n 0, 1) := by decide +kernel
theorem dJ3_checkIndex_8e157_1 : decode mJ3_checkIndex_8e157.2.1 1 = .ok (.ifCond .lt 8, 3) := by decide +kernel
theorem dJ3_checkIndex_8e157_4 : decode mJ3_checkIndex_8e157.2.1 4 = .ok (.iload_n 0, 1) := by decide +kernel
theorem dJ3_checkIndex_8e157_5 : decode mJ3_checkIndex_8e157.2.1 5 = .ok (.iload_n 1, 1) := by decide +kernel
theorem dJ3_checkIndex_8e157_6 : decode mJ3_checkIndex_8e157.2.1 6 = .ok (.if_icmp .lt 10, 3) := by decide +kernel
theorem dJ3_checkIndex_8e157_9 : decode mJ3_checkIndex_8e157.2.1 9 = .ok (.aload_n 2, 1) := by decide +kernel
theorem dJ3_checkIndex_8e157_10 : decode mJ3_checkIndex_8e157.2.1 10 = .ok (.iload_n 0, 1) := by decide +kernel
theorem dJ3_checkIndex_8e157_11 : decode mJ3_checkIndex_8e157.2.1 11 = .ok (.iload_n 1, 1) := by decide +kernel
theorem dJ3_checkIndex_8e157_12 : decode mJ3_checkIndex_8e157.2.1 12 = .ok (.invokestatic 95, 3) := by decide +kernel
theorem dJ3_checkIndex_8e157_15 : decode mJ3_checkIndex_8e157.2.1 15 = .ok (.athrow, 1) := by decide +kernel
theorem dJ3_checkIndex_8e157_16 : decode mJ3_checkIndex_8e157.2.1 16 = .ok (.iload_n 0, 1) := by decide +kernel
theorem dJ3_checkIndex_8e157_17 : decode mJ3_checkIndex_8e157.2.1 17 = .ok (.ireturn, 1) := by decide +kernel
