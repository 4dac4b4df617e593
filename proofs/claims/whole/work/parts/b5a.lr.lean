-- THE LAW: words, decode rows
def lw_Y : am_Y := (x, code, 4, ret)
theorem wd_136 : Cond.classLink "MourningHouseLaw" 7 "MourningHouse" ∈ am_TW := am_tk1 (List.mem_of_getElem? (i := 25) (by decide +kernel)) rfl
theorem wd_137 : Cond.instantiable "MourningHouse" 13 ∈ am_TW := am_tk1 (List.mem_of_getElem? (i := 26) (by decide +kernel)) rfl
theorem wd_138 : Cond.methodLink "MourningHouseLaw" 9 ⟨"MourningHouse", "<init>", "()V"⟩ ∈ am_TW := am_tk1 (List.mem_of_getElem? (i := 27) (by decide +kernel)) rfl
theorem wd_139 : Cond.instanceMethod ⟨"MourningHouse", "<init>", "()V"⟩ ∈ am_TW := am_tk1 (List.mem_of_getElem? (i := 28) (by decide +kernel)) rfl
theorem wd_609 : Cond.methodLink "MourningHouseLaw" 13 ⟨"MourningHouse", "feed", "(IIIII)I"⟩ ∈ am_TW := am_tk3 (List.mem_of_getElem? (i := 18) (by decide +kernel)) rfl
theorem wd_610 : Cond.instanceMethod ⟨"MourningHouse", "feed", "(IIIII)I"⟩ ∈ am_TW := am_tk3 (List.mem_of_getElem? (i := 19) (by decide +kernel)) rfl
theorem wd_611 : Cond.selects "MourningHouse" ⟨"MourningHouse", "feed", "(IIIII)I"⟩ ⟨"MourningHouse", "feed", "(IIIII)I"⟩ ∈ am_TW := am_tk3 (List.mem_of_getElem? (i := 20) (by decide +kernel)) rfl
theorem wd_621 : Cond.methodLink "MourningHouseLaw" 18 ⟨"MourningHouse", "end", "(I)Z"⟩ ∈ am_TW := am_tk3 (List.mem_of_getElem? (i := 30) (by decide +kernel)) rfl
theorem wd_622 : Cond.instanceMethod ⟨"MourningHouse", "end", "(I)Z"⟩ ∈ am_TW := am_tk3 (List.mem_of_getElem? (i := 31) (by decide +kernel)) rfl
theorem wd_623 : Cond.selects "MourningHouse" ⟨"MourningHouse", "end", "(I)Z"⟩ ⟨"MourningHouse", "end", "(I)Z"⟩ ∈ am_TW := am_tk3 (List.mem_of_getElem? (i := 32) (by decide +kernel)) rfl
theorem wd_625 : Cond.methodLink "MourningHouseLaw" 23 ⟨"MourningHouse", "take", "()I"⟩ ∈ am_TW := am_tk3 (List.mem_of_getElem? (i := 34) (by decide +kernel)) rfl
theorem wd_626 : Cond.instanceMethod ⟨"MourningHouse", "take", "()I"⟩ ∈ am_TW := am_tk3 (List.mem_of_getElem? (i := 35) (by decide +kernel)) rfl
theorem wd_627 : Cond.selects "MourningHouse" ⟨"MourningHouse", "take", "()I"⟩ ⟨"MourningHouse", "take", "()I"⟩ ∈ am_TW := am_tk3 (List.mem_of_getElem? (i := 36) (by decide +kernel)) rfl
theorem wd_917 : Cond.methodLink "MourningHouseLaw" 28 ⟨"MourningHouse", "fault", "(I)I"⟩ ∈ am_TW := am_tk4 (List.mem_of_getElem? (i := 86) (by decide +kernel)) rfl
theorem wd_918 : Cond.instanceMethod ⟨"MourningHouse", "fault", "(I)I"⟩ ∈ am_TW := am_tk4 (List.mem_of_getElem? (i := 87) (by decide +kernel)) rfl
theorem wd_919 : Cond.selects "MourningHouse" ⟨"MourningHouse", "fault", "(I)I"⟩ ⟨"MourningHouse", "fault", "(I)I"⟩ ∈ am_TW := am_tk4 (List.mem_of_getElem? (i := 88) (by decide +kernel)) rfl
theorem wd_921 : Cond.methodLink "MourningHouseLaw" 138 ⟨"MourningHouse", "write", "(II)I"⟩ ∈ am_TW := am_tk4 (List.mem_of_getElem? (i := 90) (by decide +kernel)) rfl
theorem wd_922 : Cond.instanceMethod ⟨"MourningHouse", "write", "(II)I"⟩ ∈ am_TW := am_tk4 (List.mem_of_getElem? (i := 91) (by decide +kernel)) rfl
theorem wd_923 : Cond.selects "MourningHouse" ⟨"MourningHouse", "write", "(II)I"⟩ ⟨"MourningHouse", "write", "(II)I"⟩ ∈ am_TW := am_tk4 (List.mem_of_getElem? (i := 92) (by decide +kernel)) rfl
theorem wd_976 : Cond.methodLink "MourningHouseLaw" 142 ⟨"MourningHouse", "out", "(I)I"⟩ ∈ am_TW := am_tk4 (List.mem_of_getElem? (i := 145) (by decide +kernel)) rfl
theorem wd_977 : Cond.instanceMethod ⟨"MourningHouse", "out", "(I)I"⟩ ∈ am_TW := am_tk4 (List.mem_of_getElem? (i := 146) (by decide +kernel)) rfl
theorem wd_978 : Cond.selects "MourningHouse" ⟨"MourningHouse", "out", "(I)I"⟩ ⟨"MourningHouse", "out", "(I)I"⟩ ∈ am_TW := am_tk4 (List.mem_of_getElem? (i := 147) (by decide +kernel)) rfl
theorem wd_984 : Cond.methodLink "MourningHouseLaw" 146 ⟨"MourningHouse", "quarrel", "(II)I"⟩ ∈ am_TW := am_tk4 (List.mem_of_getElem? (i := 153) (by decide +kernel)) rfl
theorem wd_985 : Cond.instanceMethod ⟨"MourningHouse", "quarrel", "(II)I"⟩ ∈ am_TW := am_tk4 (List.mem_of_getElem? (i := 154) (by decide +kernel)) rfl
theorem wd_986 : Cond.selects "MourningHouse" ⟨"MourningHouse", "quarrel", "(II)I"⟩ ⟨"MourningHouse", "quarrel", "(II)I"⟩ ∈ am_TW := am_tk4 (List.mem_of_getElem? (i := 155) (by decide +kernel)) rfl
theorem wd_1000 : Cond.methodLink "MourningHouseLaw" 33 ⟨"MourningHouse", "date", "(I)I"⟩ ∈ am_TW := am_tk4 (List.mem_of_getElem? (i := 169) (by decide +kernel)) rfl
theorem wd_1001 : Cond.instanceMethod ⟨"MourningHouse", "date", "(I)I"⟩ ∈ am_TW := am_tk4 (List.mem_of_getElem? (i := 170) (by decide +kernel)) rfl
theorem wd_1002 : Cond.selects "MourningHouse" ⟨"MourningHouse", "date", "(I)I"⟩ ⟨"MourningHouse", "date", "(I)I"⟩ ∈ am_TW := am_tk4 (List.mem_of_getElem? (i := 171) (by decide +kernel)) rfl
theorem wd_1016 : Cond.methodLink "MourningHouseLaw" 37 ⟨"MourningHouse", "day", "(I)I"⟩ ∈ am_TW := am_tk4 (List.mem_of_getElem? (i := 185) (by decide +kernel)) rfl
theorem wd_1017 : Cond.instanceMethod ⟨"MourningHouse", "day", "(I)I"⟩ ∈ am_TW := am_tk4 (List.mem_of_getElem? (i := 186) (by decide +kernel)) rfl
theorem wd_1018 : Cond.selects "MourningHouse" ⟨"MourningHouse", "day", "(I)I"⟩ ⟨"MourningHouse", "day", "(I)I"⟩ ∈ am_TW := am_tk4 (List.mem_of_getElem? (i := 187) (by decide +kernel)) rfl
theorem wd_1029 : Cond.methodLink "MourningHouseLaw" 41 ⟨"MourningHouse", "months", "(II)I"⟩ ∈ am_TW := am_tk4 (List.mem_of_getElem? (i := 198) (by decide +kernel)) rfl
theorem wd_1030 : Cond.instanceMethod ⟨"MourningHouse", "months", "(II)I"⟩ ∈ am_TW := am_tk4 (List.mem_of_getElem? (i := 199) (by decide +kernel)) rfl
theorem wd_1031 : Cond.selects "MourningHouse" ⟨"MourningHouse", "months", "(II)I"⟩ ⟨"MourningHouse", "months", "(II)I"⟩ ∈ am_TW := am_tk4 (List.mem_of_getElem? (i := 200) (by decide +kernel)) rfl
theorem wd_1039 : Cond.methodLink "MourningHouseLaw" 46 ⟨"MourningHouse", "go", "(I)I"⟩ ∈ am_TW := am_tk4 (List.mem_of_getElem? (i := 208) (by decide +kernel)) rfl
theorem wd_1040 : Cond.instanceMethod ⟨"MourningHouse", "go", "(I)I"⟩ ∈ am_TW := am_tk4 (List.mem_of_getElem? (i := 209) (by decide +kernel)) rfl
theorem wd_1041 : Cond.selects "MourningHouse" ⟨"MourningHouse", "go", "(I)I"⟩ ⟨"MourningHouse", "go", "(I)I"⟩ ∈ am_TW := am_tk4 (List.mem_of_getElem? (i := 210) (by decide +kernel)) rfl
theorem wd_1065 : Cond.methodLink "MourningHouseLaw" 50 ⟨"MourningHouse", "person", "(IIII)I"⟩ ∈ am_TW := am_tk4 (List.mem_of_getElem? (i := 234) (by decide +kernel)) rfl
theorem wd_1066 : Cond.instanceMethod ⟨"MourningHouse", "person", "(IIII)I"⟩ ∈ am_TW := am_tk4 (List.mem_of_getElem? (i := 235) (by decide +kernel)) rfl
theorem wd_1067 : Cond.selects "MourningHouse" ⟨"MourningHouse", "person", "(IIII)I"⟩ ⟨"MourningHouse", "person", "(IIII)I"⟩ ∈ am_TW := am_tk4 (List.mem_of_getElem? (i := 236) (by decide +kernel)) rfl
theorem wd_1098 : Cond.methodLink "MourningHouseLaw" 55 ⟨"MourningHouse", "death", "(II)Z"⟩ ∈ am_TW := am_tk5 (List.mem_of_getElem? (i := 27) (by decide +kernel)) rfl
theorem wd_1099 : Cond.instanceMethod ⟨"MourningHouse", "death", "(II)Z"⟩ ∈ am_TW := am_tk5 (List.mem_of_getElem? (i := 28) (by decide +kernel)) rfl
theorem wd_1100 : Cond.selects "MourningHouse" ⟨"MourningHouse", "death", "(II)Z"⟩ ⟨"MourningHouse", "death", "(II)Z"⟩ ∈ am_TW := am_tk5 (List.mem_of_getElem? (i := 29) (by decide +kernel)) rfl
theorem wd_1111 : Cond.methodLink "MourningHouseLaw" 60 ⟨"MourningHouse", "wed", "(III)I"⟩ ∈ am_TW := am_tk5 (List.mem_of_getElem? (i := 40) (by decide +kernel)) rfl
theorem wd_1112 : Cond.instanceMethod ⟨"MourningHouse", "wed", "(III)I"⟩ ∈ am_TW := am_tk5 (List.mem_of_getElem? (i := 41) (by decide +kernel)) rfl
theorem wd_1113 : Cond.selects "MourningHouse" ⟨"MourningHouse", "wed", "(III)I"⟩ ⟨"MourningHouse", "wed", "(III)I"⟩ ∈ am_TW := am_tk5 (List.mem_of_getElem? (i := 42) (by decide +kernel)) rfl
theorem wd_1123 : Cond.methodLink "MourningHouseLaw" 65 ⟨"MourningHouse", "court", "(III)I"⟩ ∈ am_TW := am_tk5 (List.mem_of_getElem? (i := 52) (by decide +kernel)) rfl
theorem wd_1124 : Cond.instanceMethod ⟨"MourningHouse", "court", "(III)I"⟩ ∈ am_TW := am_tk5 (List.mem_of_getElem? (i := 53) (by decide +kernel)) rfl
theorem wd_1125 : Cond.selects "MourningHouse" ⟨"MourningHouse", "court", "(III)I"⟩ ⟨"MourningHouse", "court", "(III)I"⟩ ∈ am_TW := am_tk5 (List.mem_of_getElem? (i := 54) (by decide +kernel)) rfl
theorem wd_1135 : Cond.methodLink "MourningHouseLaw" 69 ⟨"MourningHouse", "kin", "(IIII)Z"⟩ ∈ am_TW := am_tk5 (List.mem_of_getElem? (i := 64) (by decide +kernel)) rfl
theorem wd_1136 : Cond.instanceMethod ⟨"MourningHouse", "kin", "(IIII)Z"⟩ ∈ am_TW := am_tk5 (List.mem_of_getElem? (i := 65) (by decide +kernel)) rfl
theorem wd_1137 : Cond.selects "MourningHouse" ⟨"MourningHouse", "kin", "(IIII)Z"⟩ ⟨"MourningHouse", "kin", "(IIII)Z"⟩ ∈ am_TW := am_tk5 (List.mem_of_getElem? (i := 66) (by decide +kernel)) rfl
theorem wd_1161 : Cond.methodLink "MourningHouseLaw" 74 ⟨"MourningHouse", "mourns", "(III)I"⟩ ∈ am_TW := am_tk5 (List.mem_of_getElem? (i := 90) (by decide +kernel)) rfl
theorem wd_1162 : Cond.instanceMethod ⟨"MourningHouse", "mourns", "(III)I"⟩ ∈ am_TW := am_tk5 (List.mem_of_getElem? (i := 91) (by decide +kernel)) rfl
theorem wd_1163 : Cond.selects "MourningHouse" ⟨"MourningHouse", "mourns", "(III)I"⟩ ⟨"MourningHouse", "mourns", "(III)I"⟩ ∈ am_TW := am_tk5 (List.mem_of_getElem? (i := 92) (by decide +kernel)) rfl
theorem wd_1176 : Cond.methodLink "MourningHouseLaw" 78 ⟨"MourningHouse", "depth", "(III)I"⟩ ∈ am_TW := am_tk5 (List.mem_of_getElem? (i := 105) (by decide +kernel)) rfl
theorem wd_1177 : Cond.instanceMethod ⟨"MourningHouse", "depth", "(III)I"⟩ ∈ am_TW := am_tk5 (List.mem_of_getElem? (i := 106) (by decide +kernel)) rfl
theorem wd_1178 : Cond.selects "MourningHouse" ⟨"MourningHouse", "depth", "(III)I"⟩ ⟨"MourningHouse", "depth", "(III)I"⟩ ∈ am_TW := am_tk5 (List.mem_of_getElem? (i := 107) (by decide +kernel)) rfl
theorem wd_1288 : Cond.methodLink "MourningHouseLaw" 82 ⟨"MourningHouse", "last", "(II)I"⟩ ∈ am_TW := am_tk5 (List.mem_of_getElem? (i := 217) (by decide +kernel)) rfl
theorem wd_1289 : Cond.instanceMethod ⟨"MourningHouse", "last", "(II)I"⟩ ∈ am_TW := am_tk5 (List.mem_of_getElem? (i := 218) (by decide +kernel)) rfl
theorem wd_1290 : Cond.selects "MourningHouse" ⟨"MourningHouse", "last", "(II)I"⟩ ⟨"MourningHouse", "last", "(II)I"⟩ ∈ am_TW := am_tk5 (List.mem_of_getElem? (i := 219) (by decide +kernel)) rfl
theorem wd_1298 : Cond.methodLink "MourningHouseLaw" 86 ⟨"MourningHouse", "edge", "(II)I"⟩ ∈ am_TW := am_tk5 (List.mem_of_getElem? (i := 227) (by decide +kernel)) rfl
theorem wd_1299 : Cond.instanceMethod ⟨"MourningHouse", "edge", "(II)I"⟩ ∈ am_TW := am_tk5 (List.mem_of_getElem? (i := 228) (by decide +kernel)) rfl
theorem wd_1300 : Cond.selects "MourningHouse" ⟨"MourningHouse", "edge", "(II)I"⟩ ⟨"MourningHouse", "edge", "(II)I"⟩ ∈ am_TW := am_tk5 (List.mem_of_getElem? (i := 229) (by decide +kernel)) rfl
theorem wd_1307 : Cond.methodLink "MourningHouseLaw" 90 ⟨"MourningHouse", "may", "(IIII)Z"⟩ ∈ am_TW := am_tk5 (List.mem_of_getElem? (i := 236) (by decide +kernel)) rfl
theorem wd_1308 : Cond.instanceMethod ⟨"MourningHouse", "may", "(IIII)Z"⟩ ∈ am_TW := am_tk5 (List.mem_of_getElem? (i := 237) (by decide +kernel)) rfl
theorem wd_1309 : Cond.selects "MourningHouse" ⟨"MourningHouse", "may", "(IIII)Z"⟩ ⟨"MourningHouse", "may", "(IIII)Z"⟩ ∈ am_TW := am_tk5 (List.mem_of_getElem? (i := 238) (by decide +kernel)) rfl
theorem wd_1318 : Cond.methodLink "MourningHouseLaw" 94 ⟨"MourningHouse", "deed", "(II)I"⟩ ∈ am_TW := am_tk6 (List.mem_of_getElem? (i := 7) (by decide +kernel)) rfl
theorem wd_1319 : Cond.instanceMethod ⟨"MourningHouse", "deed", "(II)I"⟩ ∈ am_TW := am_tk6 (List.mem_of_getElem? (i := 8) (by decide +kernel)) rfl
theorem wd_1320 : Cond.selects "MourningHouse" ⟨"MourningHouse", "deed", "(II)I"⟩ ⟨"MourningHouse", "deed", "(II)I"⟩ ∈ am_TW := am_tk6 (List.mem_of_getElem? (i := 9) (by decide +kernel)) rfl
theorem wd_1322 : Cond.methodLink "MourningHouseLaw" 98 ⟨"MourningHouse", "stands", "(II)I"⟩ ∈ am_TW := am_tk6 (List.mem_of_getElem? (i := 11) (by decide +kernel)) rfl
theorem wd_1323 : Cond.instanceMethod ⟨"MourningHouse", "stands", "(II)I"⟩ ∈ am_TW := am_tk6 (List.mem_of_getElem? (i := 12) (by decide +kernel)) rfl
theorem wd_1324 : Cond.selects "MourningHouse" ⟨"MourningHouse", "stands", "(II)I"⟩ ⟨"MourningHouse", "stands", "(II)I"⟩ ∈ am_TW := am_tk6 (List.mem_of_getElem? (i := 13) (by decide +kernel)) rfl
theorem wd_1330 : Cond.methodLink "MourningHouseLaw" 102 ⟨"MourningHouse", "best", "(IIII)I"⟩ ∈ am_TW := am_tk6 (List.mem_of_getElem? (i := 19) (by decide +kernel)) rfl
theorem wd_1331 : Cond.instanceMethod ⟨"MourningHouse", "best", "(IIII)I"⟩ ∈ am_TW := am_tk6 (List.mem_of_getElem? (i := 20) (by decide +kernel)) rfl
theorem wd_1332 : Cond.selects "MourningHouse" ⟨"MourningHouse", "best", "(IIII)I"⟩ ⟨"MourningHouse", "best", "(IIII)I"⟩ ∈ am_TW := am_tk6 (List.mem_of_getElem? (i := 21) (by decide +kernel)) rfl
theorem wd_1341 : Cond.methodLink "MourningHouseLaw" 106 ⟨"MourningHouse", "first", "(III)I"⟩ ∈ am_TW := am_tk6 (List.mem_of_getElem? (i := 30) (by decide +kernel)) rfl
theorem wd_1342 : Cond.instanceMethod ⟨"MourningHouse", "first", "(III)I"⟩ ∈ am_TW := am_tk6 (List.mem_of_getElem? (i := 31) (by decide +kernel)) rfl
theorem wd_1343 : Cond.selects "MourningHouse" ⟨"MourningHouse", "first", "(III)I"⟩ ⟨"MourningHouse", "first", "(III)I"⟩ ∈ am_TW := am_tk6 (List.mem_of_getElem? (i := 32) (by decide +kernel)) rfl
theorem wd_1345 : Cond.methodLink "MourningHouseLaw" 110 ⟨"MourningHouse", "dress", "(II)I"⟩ ∈ am_TW := am_tk6 (List.mem_of_getElem? (i := 34) (by decide +kernel)) rfl
theorem wd_1346 : Cond.instanceMethod ⟨"MourningHouse", "dress", "(II)I"⟩ ∈ am_TW := am_tk6 (List.mem_of_getElem? (i := 35) (by decide +kernel)) rfl
theorem wd_1347 : Cond.selects "MourningHouse" ⟨"MourningHouse", "dress", "(II)I"⟩ ⟨"MourningHouse", "dress", "(II)I"⟩ ∈ am_TW := am_tk6 (List.mem_of_getElem? (i := 36) (by decide +kernel)) rfl
theorem wd_1357 : Cond.methodLink "MourningHouseLaw" 114 ⟨"MourningHouse", "cloth", "(II)I"⟩ ∈ am_TW := am_tk6 (List.mem_of_getElem? (i := 46) (by decide +kernel)) rfl
theorem wd_1358 : Cond.instanceMethod ⟨"MourningHouse", "cloth", "(II)I"⟩ ∈ am_TW := am_tk6 (List.mem_of_getElem? (i := 47) (by decide +kernel)) rfl
theorem wd_1359 : Cond.selects "MourningHouse" ⟨"MourningHouse", "cloth", "(II)I"⟩ ⟨"MourningHouse", "cloth", "(II)I"⟩ ∈ am_TW := am_tk6 (List.mem_of_getElem? (i := 48) (by decide +kernel)) rfl
theorem wd_1369 : Cond.methodLink "MourningHouseLaw" 118 ⟨"MourningHouse", "hands", "(I)Z"⟩ ∈ am_TW := am_tk6 (List.mem_of_getElem? (i := 58) (by decide +kernel)) rfl
theorem wd_1370 : Cond.instanceMethod ⟨"MourningHouse", "hands", "(I)Z"⟩ ∈ am_TW := am_tk6 (List.mem_of_getElem? (i := 59) (by decide +kernel)) rfl
theorem wd_1371 : Cond.selects "MourningHouse" ⟨"MourningHouse", "hands", "(I)Z"⟩ ⟨"MourningHouse", "hands", "(I)Z"⟩ ∈ am_TW := am_tk6 (List.mem_of_getElem? (i := 60) (by decide +kernel)) rfl
theorem wd_1373 : Cond.methodLink "MourningHouseLaw" 122 ⟨"MourningHouse", "dye", "(II)I"⟩ ∈ am_TW := am_tk6 (List.mem_of_getElem? (i := 62) (by decide +kernel)) rfl
theorem wd_1374 : Cond.instanceMethod ⟨"MourningHouse", "dye", "(II)I"⟩ ∈ am_TW := am_tk6 (List.mem_of_getElem? (i := 63) (by decide +kernel)) rfl
theorem wd_1375 : Cond.selects "MourningHouse" ⟨"MourningHouse", "dye", "(II)I"⟩ ⟨"MourningHouse", "dye", "(II)I"⟩ ∈ am_TW := am_tk6 (List.mem_of_getElem? (i := 64) (by decide +kernel)) rfl
theorem wd_1389 : Cond.methodLink "MourningHouseLaw" 126 ⟨"MourningHouse", "make", "(II)I"⟩ ∈ am_TW := am_tk6 (List.mem_of_getElem? (i := 78) (by decide +kernel)) rfl
theorem wd_1390 : Cond.instanceMethod ⟨"MourningHouse", "make", "(II)I"⟩ ∈ am_TW := am_tk6 (List.mem_of_getElem? (i := 79) (by decide +kernel)) rfl
theorem wd_1391 : Cond.selects "MourningHouse" ⟨"MourningHouse", "make", "(II)I"⟩ ⟨"MourningHouse", "make", "(II)I"⟩ ∈ am_TW := am_tk6 (List.mem_of_getElem? (i := 80) (by decide +kernel)) rfl
theorem wd_1402 : Cond.methodLink "MourningHouseLaw" 130 ⟨"MourningHouse", "plan", "(III)I"⟩ ∈ am_TW := am_tk6 (List.mem_of_getElem? (i := 91) (by decide +kernel)) rfl
theorem wd_1403 : Cond.instanceMethod ⟨"MourningHouse", "plan", "(III)I"⟩ ∈ am_TW := am_tk6 (List.mem_of_getElem? (i := 92) (by decide +kernel)) rfl
theorem wd_1404 : Cond.selects "MourningHouse" ⟨"MourningHouse", "plan", "(III)I"⟩ ⟨"MourningHouse", "plan", "(III)I"⟩ ∈ am_TW := am_tk6 (List.mem_of_getElem? (i := 93) (by decide +kernel)) rfl
theorem wd_1478 : Cond.methodLink "MourningHouseLaw" 134 ⟨"MourningHouse", "planned", "(III)I"⟩ ∈ am_TW := am_tk6 (List.mem_of_getElem? (i := 167) (by decide +kernel)) rfl
theorem wd_1479 : Cond.instanceMethod ⟨"MourningHouse", "planned", "(III)I"⟩ ∈ am_TW := am_tk6 (List.mem_of_getElem? (i := 168) (by decide +kernel)) rfl
theorem wd_1480 : Cond.selects "MourningHouse" ⟨"MourningHouse", "planned", "(III)I"⟩ ⟨"MourningHouse", "planned", "(III)I"⟩ ∈ am_TW := am_tk6 (List.mem_of_getElem? (i := 169) (by decide +kernel)) rfl
theorem wd_1486 : Cond.methodLink "MourningHouseLaw" 150 ⟨"MourningHouse", "worn", "(II)I"⟩ ∈ am_TW := am_tk6 (List.mem_of_getElem? (i := 175) (by decide +kernel)) rfl
theorem wd_1487 : Cond.instanceMethod ⟨"MourningHouse", "worn", "(II)I"⟩ ∈ am_TW := am_tk6 (List.mem_of_getElem? (i := 176) (by decide +kernel)) rfl
theorem wd_1488 : Cond.selects "MourningHouse" ⟨"MourningHouse", "worn", "(II)I"⟩ ⟨"MourningHouse", "worn", "(II)I"⟩ ∈ am_TW := am_tk6 (List.mem_of_getElem? (i := 177) (by decide +kernel)) rfl
theorem wd_1491 : Cond.methodLink "MourningHouseLaw" 154 ⟨"MourningHouse", "told", "(II)I"⟩ ∈ am_TW := am_tk6 (List.mem_of_getElem? (i := 180) (by decide +kernel)) rfl
theorem wd_1492 : Cond.instanceMethod ⟨"MourningHouse", "told", "(II)I"⟩ ∈ am_TW := am_tk6 (List.mem_of_getElem? (i := 181) (by decide +kernel)) rfl
theorem wd_1493 : Cond.selects "MourningHouse" ⟨"MourningHouse", "told", "(II)I"⟩ ⟨"MourningHouse", "told", "(II)I"⟩ ∈ am_TW := am_tk6 (List.mem_of_getElem? (i := 182) (by decide +kernel)) rfl
theorem wd_1500 : Cond.methodLink "MourningHouseLaw" 158 ⟨"MourningHouse", "count", "(I)I"⟩ ∈ am_TW := am_tk6 (List.mem_of_getElem? (i := 189) (by decide +kernel)) rfl
theorem wd_1501 : Cond.instanceMethod ⟨"MourningHouse", "count", "(I)I"⟩ ∈ am_TW := am_tk6 (List.mem_of_getElem? (i := 190) (by decide +kernel)) rfl
theorem wd_1502 : Cond.selects "MourningHouse" ⟨"MourningHouse", "count", "(I)I"⟩ ⟨"MourningHouse", "count", "(I)I"⟩ ∈ am_TW := am_tk6 (List.mem_of_getElem? (i := 191) (by decide +kernel)) rfl
theorem wd_1508 : Cond.classLink "MourningHouseLaw" 10 "MourningHouseModel" ∈ am_TW := am_tk6 (List.mem_of_getElem? (i := 197) (by decide +kernel)) rfl
theorem wd_1509 : Cond.instantiable "MourningHouseModel" 100 ∈ am_TW := am_tk6 (List.mem_of_getElem? (i := 198) (by decide +kernel)) rfl
theorem wd_1510 : Cond.methodLink "MourningHouseLaw" 12 ⟨"MourningHouseModel", "<init>", "()V"⟩ ∈ am_TW := am_tk6 (List.mem_of_getElem? (i := 199) (by decide +kernel)) rfl
theorem wd_1511 : Cond.instanceMethod ⟨"MourningHouseModel", "<init>", "()V"⟩ ∈ am_TW := am_tk6 (List.mem_of_getElem? (i := 200) (by decide +kernel)) rfl
theorem wd_1850 : Cond.methodLink "MourningHouseLaw" 36 ⟨"MourningHouseModel", "date", "(I)I"⟩ ∈ am_TW := am_tk8 (List.mem_of_getElem? (i := 59) (by decide +kernel)) rfl
theorem wd_1851 : Cond.instanceMethod ⟨"MourningHouseModel", "date", "(I)I"⟩ ∈ am_TW := am_tk8 (List.mem_of_getElem? (i := 60) (by decide +kernel)) rfl
theorem wd_1852 : Cond.selects "MourningHouseModel" ⟨"MourningHouseModel", "date", "(I)I"⟩ ⟨"MourningHouseModel", "date", "(I)I"⟩ ∈ am_TW := am_tk8 (List.mem_of_getElem? (i := 61) (by decide +kernel)) rfl
theorem wd_1883 : Cond.methodLink "MourningHouseLaw" 40 ⟨"MourningHouseModel", "day", "(I)I"⟩ ∈ am_TW := am_tk8 (List.mem_of_getElem? (i := 92) (by decide +kernel)) rfl
theorem wd_1884 : Cond.instanceMethod ⟨"MourningHouseModel", "day", "(I)I"⟩ ∈ am_TW := am_tk8 (List.mem_of_getElem? (i := 93) (by decide +kernel)) rfl
theorem wd_1885 : Cond.selects "MourningHouseModel" ⟨"MourningHouseModel", "day", "(I)I"⟩ ⟨"MourningHouseModel", "day", "(I)I"⟩ ∈ am_TW := am_tk8 (List.mem_of_getElem? (i := 94) (by decide +kernel)) rfl
theorem wd_1888 : Cond.methodLink "MourningHouseLaw" 45 ⟨"MourningHouseModel", "months", "(II)I"⟩ ∈ am_TW := am_tk8 (List.mem_of_getElem? (i := 97) (by decide +kernel)) rfl
theorem wd_1889 : Cond.instanceMethod ⟨"MourningHouseModel", "months", "(II)I"⟩ ∈ am_TW := am_tk8 (List.mem_of_getElem? (i := 98) (by decide +kernel)) rfl
theorem wd_1890 : Cond.selects "MourningHouseModel" ⟨"MourningHouseModel", "months", "(II)I"⟩ ⟨"MourningHouseModel", "months", "(II)I"⟩ ∈ am_TW := am_tk8 (List.mem_of_getElem? (i := 99) (by decide +kernel)) rfl
theorem wd_1895 : Cond.methodLink "MourningHouseLaw" 17 ⟨"MourningHouseModel", "feed", "(IIIII)I"⟩ ∈ am_TW := am_tk8 (List.mem_of_getElem? (i := 104) (by decide +kernel)) rfl
theorem wd_1896 : Cond.instanceMethod ⟨"MourningHouseModel", "feed", "(IIIII)I"⟩ ∈ am_TW := am_tk8 (List.mem_of_getElem? (i := 105) (by decide +kernel)) rfl
theorem wd_1897 : Cond.selects "MourningHouseModel" ⟨"MourningHouseModel", "feed", "(IIIII)I"⟩ ⟨"MourningHouseModel", "feed", "(IIIII)I"⟩ ∈ am_TW := am_tk8 (List.mem_of_getElem? (i := 106) (by decide +kernel)) rfl
theorem wd_1903 : Cond.methodLink "MourningHouseLaw" 22 ⟨"MourningHouseModel", "end", "(I)Z"⟩ ∈ am_TW := am_tk8 (List.mem_of_getElem? (i := 112) (by decide +kernel)) rfl
theorem wd_1904 : Cond.instanceMethod ⟨"MourningHouseModel", "end", "(I)Z"⟩ ∈ am_TW := am_tk8 (List.mem_of_getElem? (i := 113) (by decide +kernel)) rfl
theorem wd_1905 : Cond.selects "MourningHouseModel" ⟨"MourningHouseModel", "end", "(I)Z"⟩ ⟨"MourningHouseModel", "end", "(I)Z"⟩ ∈ am_TW := am_tk8 (List.mem_of_getElem? (i := 114) (by decide +kernel)) rfl
theorem wd_1907 : Cond.methodLink "MourningHouseLaw" 27 ⟨"MourningHouseModel", "take", "()I"⟩ ∈ am_TW := am_tk8 (List.mem_of_getElem? (i := 116) (by decide +kernel)) rfl
theorem wd_1908 : Cond.instanceMethod ⟨"MourningHouseModel", "take", "()I"⟩ ∈ am_TW := am_tk8 (List.mem_of_getElem? (i := 117) (by decide +kernel)) rfl
theorem wd_1909 : Cond.selects "MourningHouseModel" ⟨"MourningHouseModel", "take", "()I"⟩ ⟨"MourningHouseModel", "take", "()I"⟩ ∈ am_TW := am_tk8 (List.mem_of_getElem? (i := 118) (by decide +kernel)) rfl
theorem wd_1998 : Cond.methodLink "MourningHouseLaw" 32 ⟨"MourningHouseModel", "fault", "(I)I"⟩ ∈ am_TW := am_tk8 (List.mem_of_getElem? (i := 207) (by decide +kernel)) rfl
theorem wd_1999 : Cond.instanceMethod ⟨"MourningHouseModel", "fault", "(I)I"⟩ ∈ am_TW := am_tk8 (List.mem_of_getElem? (i := 208) (by decide +kernel)) rfl
theorem wd_2000 : Cond.selects "MourningHouseModel" ⟨"MourningHouseModel", "fault", "(I)I"⟩ ⟨"MourningHouseModel", "fault", "(I)I"⟩ ∈ am_TW := am_tk8 (List.mem_of_getElem? (i := 209) (by decide +kernel)) rfl
theorem wd_2002 : Cond.methodLink "MourningHouseLaw" 49 ⟨"MourningHouseModel", "go", "(I)I"⟩ ∈ am_TW := am_tk8 (List.mem_of_getElem? (i := 211) (by decide +kernel)) rfl
theorem wd_2003 : Cond.instanceMethod ⟨"MourningHouseModel", "go", "(I)I"⟩ ∈ am_TW := am_tk8 (List.mem_of_getElem? (i := 212) (by decide +kernel)) rfl
theorem wd_2004 : Cond.selects "MourningHouseModel" ⟨"MourningHouseModel", "go", "(I)I"⟩ ⟨"MourningHouseModel", "go", "(I)I"⟩ ∈ am_TW := am_tk8 (List.mem_of_getElem? (i := 213) (by decide +kernel)) rfl
theorem wd_2014 : Cond.methodLink "MourningHouseLaw" 54 ⟨"MourningHouseModel", "person", "(IIII)I"⟩ ∈ am_TW := am_tk8 (List.mem_of_getElem? (i := 223) (by decide +kernel)) rfl
theorem wd_2015 : Cond.instanceMethod ⟨"MourningHouseModel", "person", "(IIII)I"⟩ ∈ am_TW := am_tk8 (List.mem_of_getElem? (i := 224) (by decide +kernel)) rfl
theorem wd_2016 : Cond.selects "MourningHouseModel" ⟨"MourningHouseModel", "person", "(IIII)I"⟩ ⟨"MourningHouseModel", "person", "(IIII)I"⟩ ∈ am_TW := am_tk8 (List.mem_of_getElem? (i := 225) (by decide +kernel)) rfl
theorem wd_2022 : Cond.methodLink "MourningHouseLaw" 59 ⟨"MourningHouseModel", "death", "(II)Z"⟩ ∈ am_TW := am_tk8 (List.mem_of_getElem? (i := 231) (by decide +kernel)) rfl
theorem wd_2023 : Cond.instanceMethod ⟨"MourningHouseModel", "death", "(II)Z"⟩ ∈ am_TW := am_tk8 (List.mem_of_getElem? (i := 232) (by decide +kernel)) rfl
theorem wd_2024 : Cond.selects "MourningHouseModel" ⟨"MourningHouseModel", "death", "(II)Z"⟩ ⟨"MourningHouseModel", "death", "(II)Z"⟩ ∈ am_TW := am_tk8 (List.mem_of_getElem? (i := 233) (by decide +kernel)) rfl
theorem wd_2026 : Cond.methodLink "MourningHouseLaw" 64 ⟨"MourningHouseModel", "wed", "(III)I"⟩ ∈ am_TW := am_tk8 (List.mem_of_getElem? (i := 235) (by decide +kernel)) rfl
theorem wd_2027 : Cond.instanceMethod ⟨"MourningHouseModel", "wed", "(III)I"⟩ ∈ am_TW := am_tk8 (List.mem_of_getElem? (i := 236) (by decide +kernel)) rfl
theorem wd_2028 : Cond.selects "MourningHouseModel" ⟨"MourningHouseModel", "wed", "(III)I"⟩ ⟨"MourningHouseModel", "wed", "(III)I"⟩ ∈ am_TW := am_tk8 (List.mem_of_getElem? (i := 237) (by decide +kernel)) rfl
theorem wd_2030 : Cond.methodLink "MourningHouseLaw" 68 ⟨"MourningHouseModel", "court", "(III)I"⟩ ∈ am_TW := am_tk8 (List.mem_of_getElem? (i := 239) (by decide +kernel)) rfl
theorem wd_2031 : Cond.instanceMethod ⟨"MourningHouseModel", "court", "(III)I"⟩ ∈ am_TW := am_tk9 (List.mem_of_getElem? (i := 0) (by decide +kernel)) rfl
theorem wd_2032 : Cond.selects "MourningHouseModel" ⟨"MourningHouseModel", "court", "(III)I"⟩ ⟨"MourningHouseModel", "court", "(III)I"⟩ ∈ am_TW := am_tk9 (List.mem_of_getElem? (i := 1) (by decide +kernel)) rfl
theorem wd_2034 : Cond.methodLink "MourningHouseLaw" 73 ⟨"MourningHouseModel", "kin", "(IIII)Z"⟩ ∈ am_TW := am_tk9 (List.mem_of_getElem? (i := 3) (by decide +kernel)) rfl
theorem wd_2035 : Cond.instanceMethod ⟨"MourningHouseModel", "kin", "(IIII)Z"⟩ ∈ am_TW := am_tk9 (List.mem_of_getElem? (i := 4) (by decide +kernel)) rfl
theorem wd_2036 : Cond.selects "MourningHouseModel" ⟨"MourningHouseModel", "kin", "(IIII)Z"⟩ ⟨"MourningHouseModel", "kin", "(IIII)Z"⟩ ∈ am_TW := am_tk9 (List.mem_of_getElem? (i := 5) (by decide +kernel)) rfl
theorem wd_2065 : Cond.methodLink "MourningHouseLaw" 77 ⟨"MourningHouseModel", "mourns", "(III)I"⟩ ∈ am_TW := am_tk9 (List.mem_of_getElem? (i := 34) (by decide +kernel)) rfl
theorem wd_2066 : Cond.instanceMethod ⟨"MourningHouseModel", "mourns", "(III)I"⟩ ∈ am_TW := am_tk9 (List.mem_of_getElem? (i := 35) (by decide +kernel)) rfl
theorem wd_2067 : Cond.selects "MourningHouseModel" ⟨"MourningHouseModel", "mourns", "(III)I"⟩ ⟨"MourningHouseModel", "mourns", "(III)I"⟩ ∈ am_TW := am_tk9 (List.mem_of_getElem? (i := 36) (by decide +kernel)) rfl
theorem wd_2081 : Cond.methodLink "MourningHouseLaw" 81 ⟨"MourningHouseModel", "depth", "(III)I"⟩ ∈ am_TW := am_tk9 (List.mem_of_getElem? (i := 50) (by decide +kernel)) rfl
theorem wd_2082 : Cond.instanceMethod ⟨"MourningHouseModel", "depth", "(III)I"⟩ ∈ am_TW := am_tk9 (List.mem_of_getElem? (i := 51) (by decide +kernel)) rfl
theorem wd_2083 : Cond.selects "MourningHouseModel" ⟨"MourningHouseModel", "depth", "(III)I"⟩ ⟨"MourningHouseModel", "depth", "(III)I"⟩ ∈ am_TW := am_tk9 (List.mem_of_getElem? (i := 52) (by decide +kernel)) rfl
theorem wd_2139 : Cond.methodLink "MourningHouseLaw" 85 ⟨"MourningHouseModel", "last", "(II)I"⟩ ∈ am_TW := am_tk9 (List.mem_of_getElem? (i := 108) (by decide +kernel)) rfl
theorem wd_2140 : Cond.instanceMethod ⟨"MourningHouseModel", "last", "(II)I"⟩ ∈ am_TW := am_tk9 (List.mem_of_getElem? (i := 109) (by decide +kernel)) rfl
theorem wd_2141 : Cond.selects "MourningHouseModel" ⟨"MourningHouseModel", "last", "(II)I"⟩ ⟨"MourningHouseModel", "last", "(II)I"⟩ ∈ am_TW := am_tk9 (List.mem_of_getElem? (i := 110) (by decide +kernel)) rfl
theorem wd_2144 : Cond.methodLink "MourningHouseLaw" 89 ⟨"MourningHouseModel", "edge", "(II)I"⟩ ∈ am_TW := am_tk9 (List.mem_of_getElem? (i := 113) (by decide +kernel)) rfl
theorem wd_2145 : Cond.instanceMethod ⟨"MourningHouseModel", "edge", "(II)I"⟩ ∈ am_TW := am_tk9 (List.mem_of_getElem? (i := 114) (by decide +kernel)) rfl
theorem wd_2146 : Cond.selects "MourningHouseModel" ⟨"MourningHouseModel", "edge", "(II)I"⟩ ⟨"MourningHouseModel", "edge", "(II)I"⟩ ∈ am_TW := am_tk9 (List.mem_of_getElem? (i := 115) (by decide +kernel)) rfl
theorem wd_2148 : Cond.methodLink "MourningHouseLaw" 93 ⟨"MourningHouseModel", "may", "(IIII)Z"⟩ ∈ am_TW := am_tk9 (List.mem_of_getElem? (i := 117) (by decide +kernel)) rfl
theorem wd_2149 : Cond.instanceMethod ⟨"MourningHouseModel", "may", "(IIII)Z"⟩ ∈ am_TW := am_tk9 (List.mem_of_getElem? (i := 118) (by decide +kernel)) rfl
theorem wd_2150 : Cond.selects "MourningHouseModel" ⟨"MourningHouseModel", "may", "(IIII)Z"⟩ ⟨"MourningHouseModel", "may", "(IIII)Z"⟩ ∈ am_TW := am_tk9 (List.mem_of_getElem? (i := 119) (by decide +kernel)) rfl
theorem wd_2163 : Cond.methodLink "MourningHouseLaw" 97 ⟨"MourningHouseModel", "deed", "(II)I"⟩ ∈ am_TW := am_tk9 (List.mem_of_getElem? (i := 132) (by decide +kernel)) rfl
theorem wd_2164 : Cond.instanceMethod ⟨"MourningHouseModel", "deed", "(II)I"⟩ ∈ am_TW := am_tk9 (List.mem_of_getElem? (i := 133) (by decide +kernel)) rfl
theorem wd_2165 : Cond.selects "MourningHouseModel" ⟨"MourningHouseModel", "deed", "(II)I"⟩ ⟨"MourningHouseModel", "deed", "(II)I"⟩ ∈ am_TW := am_tk9 (List.mem_of_getElem? (i := 134) (by decide +kernel)) rfl
theorem wd_2167 : Cond.methodLink "MourningHouseLaw" 101 ⟨"MourningHouseModel", "stands", "(II)I"⟩ ∈ am_TW := am_tk9 (List.mem_of_getElem? (i := 136) (by decide +kernel)) rfl
theorem wd_2168 : Cond.instanceMethod ⟨"MourningHouseModel", "stands", "(II)I"⟩ ∈ am_TW := am_tk9 (List.mem_of_getElem? (i := 137) (by decide +kernel)) rfl
theorem wd_2169 : Cond.selects "MourningHouseModel" ⟨"MourningHouseModel", "stands", "(II)I"⟩ ⟨"MourningHouseModel", "stands", "(II)I"⟩ ∈ am_TW := am_tk9 (List.mem_of_getElem? (i := 138) (by decide +kernel)) rfl
theorem wd_2171 : Cond.methodLink "MourningHouseLaw" 105 ⟨"MourningHouseModel", "best", "(IIII)I"⟩ ∈ am_TW := am_tk9 (List.mem_of_getElem? (i := 140) (by decide +kernel)) rfl
theorem wd_2172 : Cond.instanceMethod ⟨"MourningHouseModel", "best", "(IIII)I"⟩ ∈ am_TW := am_tk9 (List.mem_of_getElem? (i := 141) (by decide +kernel)) rfl
theorem wd_2173 : Cond.selects "MourningHouseModel" ⟨"MourningHouseModel", "best", "(IIII)I"⟩ ⟨"MourningHouseModel", "best", "(IIII)I"⟩ ∈ am_TW := am_tk9 (List.mem_of_getElem? (i := 142) (by decide +kernel)) rfl
theorem wd_2175 : Cond.methodLink "MourningHouseLaw" 109 ⟨"MourningHouseModel", "first", "(III)I"⟩ ∈ am_TW := am_tk9 (List.mem_of_getElem? (i := 144) (by decide +kernel)) rfl
theorem wd_2176 : Cond.instanceMethod ⟨"MourningHouseModel", "first", "(III)I"⟩ ∈ am_TW := am_tk9 (List.mem_of_getElem? (i := 145) (by decide +kernel)) rfl
theorem wd_2177 : Cond.selects "MourningHouseModel" ⟨"MourningHouseModel", "first", "(III)I"⟩ ⟨"MourningHouseModel", "first", "(III)I"⟩ ∈ am_TW := am_tk9 (List.mem_of_getElem? (i := 146) (by decide +kernel)) rfl
theorem wd_2179 : Cond.methodLink "MourningHouseLaw" 113 ⟨"MourningHouseModel", "dress", "(II)I"⟩ ∈ am_TW := am_tk9 (List.mem_of_getElem? (i := 148) (by decide +kernel)) rfl
theorem wd_2180 : Cond.instanceMethod ⟨"MourningHouseModel", "dress", "(II)I"⟩ ∈ am_TW := am_tk9 (List.mem_of_getElem? (i := 149) (by decide +kernel)) rfl
theorem wd_2181 : Cond.selects "MourningHouseModel" ⟨"MourningHouseModel", "dress", "(II)I"⟩ ⟨"MourningHouseModel", "dress", "(II)I"⟩ ∈ am_TW := am_tk9 (List.mem_of_getElem? (i := 150) (by decide +kernel)) rfl
theorem wd_2190 : Cond.methodLink "MourningHouseLaw" 117 ⟨"MourningHouseModel", "cloth", "(II)I"⟩ ∈ am_TW := am_tk9 (List.mem_of_getElem? (i := 159) (by decide +kernel)) rfl
theorem wd_2191 : Cond.instanceMethod ⟨"MourningHouseModel", "cloth", "(II)I"⟩ ∈ am_TW := am_tk9 (List.mem_of_getElem? (i := 160) (by decide +kernel)) rfl
theorem wd_2192 : Cond.selects "MourningHouseModel" ⟨"MourningHouseModel", "cloth", "(II)I"⟩ ⟨"MourningHouseModel", "cloth", "(II)I"⟩ ∈ am_TW := am_tk9 (List.mem_of_getElem? (i := 161) (by decide +kernel)) rfl
theorem wd_2194 : Cond.methodLink "MourningHouseLaw" 121 ⟨"MourningHouseModel", "hands", "(I)Z"⟩ ∈ am_TW := am_tk9 (List.mem_of_getElem? (i := 163) (by decide +kernel)) rfl
theorem wd_2195 : Cond.instanceMethod ⟨"MourningHouseModel", "hands", "(I)Z"⟩ ∈ am_TW := am_tk9 (List.mem_of_getElem? (i := 164) (by decide +kernel)) rfl
theorem wd_2196 : Cond.selects "MourningHouseModel" ⟨"MourningHouseModel", "hands", "(I)Z"⟩ ⟨"MourningHouseModel", "hands", "(I)Z"⟩ ∈ am_TW := am_tk9 (List.mem_of_getElem? (i := 165) (by decide +kernel)) rfl
theorem wd_2198 : Cond.methodLink "MourningHouseLaw" 125 ⟨"MourningHouseModel", "dye", "(II)I"⟩ ∈ am_TW := am_tk9 (List.mem_of_getElem? (i := 167) (by decide +kernel)) rfl
theorem wd_2199 : Cond.instanceMethod ⟨"MourningHouseModel", "dye", "(II)I"⟩ ∈ am_TW := am_tk9 (List.mem_of_getElem? (i := 168) (by decide +kernel)) rfl
theorem wd_2200 : Cond.selects "MourningHouseModel" ⟨"MourningHouseModel", "dye", "(II)I"⟩ ⟨"MourningHouseModel", "dye", "(II)I"⟩ ∈ am_TW := am_tk9 (List.mem_of_getElem? (i := 169) (by decide +kernel)) rfl
theorem wd_2210 : Cond.methodLink "MourningHouseLaw" 129 ⟨"MourningHouseModel", "make", "(II)I"⟩ ∈ am_TW := am_tk9 (List.mem_of_getElem? (i := 179) (by decide +kernel)) rfl
theorem wd_2211 : Cond.instanceMethod ⟨"MourningHouseModel", "make", "(II)I"⟩ ∈ am_TW := am_tk9 (List.mem_of_getElem? (i := 180) (by decide +kernel)) rfl
theorem wd_2212 : Cond.selects "MourningHouseModel" ⟨"MourningHouseModel", "make", "(II)I"⟩ ⟨"MourningHouseModel", "make", "(II)I"⟩ ∈ am_TW := am_tk9 (List.mem_of_getElem? (i := 181) (by decide +kernel)) rfl
theorem wd_2214 : Cond.methodLink "MourningHouseLaw" 133 ⟨"MourningHouseModel", "plan", "(III)I"⟩ ∈ am_TW := am_tk9 (List.mem_of_getElem? (i := 183) (by decide +kernel)) rfl
theorem wd_2215 : Cond.instanceMethod ⟨"MourningHouseModel", "plan", "(III)I"⟩ ∈ am_TW := am_tk9 (List.mem_of_getElem? (i := 184) (by decide +kernel)) rfl
theorem wd_2216 : Cond.selects "MourningHouseModel" ⟨"MourningHouseModel", "plan", "(III)I"⟩ ⟨"MourningHouseModel", "plan", "(III)I"⟩ ∈ am_TW := am_tk9 (List.mem_of_getElem? (i := 185) (by decide +kernel)) rfl
theorem wd_2242 : Cond.methodLink "MourningHouseLaw" 137 ⟨"MourningHouseModel", "planned", "(III)I"⟩ ∈ am_TW := am_tk9 (List.mem_of_getElem? (i := 211) (by decide +kernel)) rfl
theorem wd_2243 : Cond.instanceMethod ⟨"MourningHouseModel", "planned", "(III)I"⟩ ∈ am_TW := am_tk9 (List.mem_of_getElem? (i := 212) (by decide +kernel)) rfl
theorem wd_2244 : Cond.selects "MourningHouseModel" ⟨"MourningHouseModel", "planned", "(III)I"⟩ ⟨"MourningHouseModel", "planned", "(III)I"⟩ ∈ am_TW := am_tk9 (List.mem_of_getElem? (i := 213) (by decide +kernel)) rfl
theorem wd_2246 : Cond.methodLink "MourningHouseLaw" 141 ⟨"MourningHouseModel", "write", "(II)I"⟩ ∈ am_TW := am_tk9 (List.mem_of_getElem? (i := 215) (by decide +kernel)) rfl
theorem wd_2247 : Cond.instanceMethod ⟨"MourningHouseModel", "write", "(II)I"⟩ ∈ am_TW := am_tk9 (List.mem_of_getElem? (i := 216) (by decide +kernel)) rfl
theorem wd_2248 : Cond.selects "MourningHouseModel" ⟨"MourningHouseModel", "write", "(II)I"⟩ ⟨"MourningHouseModel", "write", "(II)I"⟩ ∈ am_TW := am_tk9 (List.mem_of_getElem? (i := 217) (by decide +kernel)) rfl
theorem wd_2475 : Cond.methodLink "MourningHouseLaw" 145 ⟨"MourningHouseModel", "out", "(I)I"⟩ ∈ am_TW := am_tk10 (List.mem_of_getElem? (i := 204) (by decide +kernel)) rfl
theorem wd_2476 : Cond.instanceMethod ⟨"MourningHouseModel", "out", "(I)I"⟩ ∈ am_TW := am_tk10 (List.mem_of_getElem? (i := 205) (by decide +kernel)) rfl
theorem wd_2477 : Cond.selects "MourningHouseModel" ⟨"MourningHouseModel", "out", "(I)I"⟩ ⟨"MourningHouseModel", "out", "(I)I"⟩ ∈ am_TW := am_tk10 (List.mem_of_getElem? (i := 206) (by decide +kernel)) rfl
theorem wd_2479 : Cond.methodLink "MourningHouseLaw" 149 ⟨"MourningHouseModel", "quarrel", "(II)I"⟩ ∈ am_TW := am_tk10 (List.mem_of_getElem? (i := 208) (by decide +kernel)) rfl
theorem wd_2480 : Cond.instanceMethod ⟨"MourningHouseModel", "quarrel", "(II)I"⟩ ∈ am_TW := am_tk10 (List.mem_of_getElem? (i := 209) (by decide +kernel)) rfl
theorem wd_2481 : Cond.selects "MourningHouseModel" ⟨"MourningHouseModel", "quarrel", "(II)I"⟩ ⟨"MourningHouseModel", "quarrel", "(II)I"⟩ ∈ am_TW := am_tk10 (List.mem_of_getElem? (i := 210) (by decide +kernel)) rfl
theorem wd_2491 : Cond.methodLink "MourningHouseLaw" 153 ⟨"MourningHouseModel", "worn", "(II)I"⟩ ∈ am_TW := am_tk10 (List.mem_of_getElem? (i := 220) (by decide +kernel)) rfl
theorem wd_2492 : Cond.instanceMethod ⟨"MourningHouseModel", "worn", "(II)I"⟩ ∈ am_TW := am_tk10 (List.mem_of_getElem? (i := 221) (by decide +kernel)) rfl
theorem wd_2493 : Cond.selects "MourningHouseModel" ⟨"MourningHouseModel", "worn", "(II)I"⟩ ⟨"MourningHouseModel", "worn", "(II)I"⟩ ∈ am_TW := am_tk10 (List.mem_of_getElem? (i := 222) (by decide +kernel)) rfl
theorem wd_2495 : Cond.methodLink "MourningHouseLaw" 157 ⟨"MourningHouseModel", "told", "(II)I"⟩ ∈ am_TW := am_tk10 (List.mem_of_getElem? (i := 224) (by decide +kernel)) rfl
theorem wd_2496 : Cond.instanceMethod ⟨"MourningHouseModel", "told", "(II)I"⟩ ∈ am_TW := am_tk10 (List.mem_of_getElem? (i := 225) (by decide +kernel)) rfl
theorem wd_2497 : Cond.selects "MourningHouseModel" ⟨"MourningHouseModel", "told", "(II)I"⟩ ⟨"MourningHouseModel", "told", "(II)I"⟩ ∈ am_TW := am_tk10 (List.mem_of_getElem? (i := 226) (by decide +kernel)) rfl
theorem wd_2499 : Cond.methodLink "MourningHouseLaw" 161 ⟨"MourningHouseModel", "count", "(I)I"⟩ ∈ am_TW := am_tk10 (List.mem_of_getElem? (i := 228) (by decide +kernel)) rfl
theorem wd_2500 : Cond.instanceMethod ⟨"MourningHouseModel", "count", "(I)I"⟩ ∈ am_TW := am_tk10 (List.mem_of_getElem? (i := 229) (by decide +kernel)) rfl
theorem wd_2501 : Cond.selects "MourningHouseModel" ⟨"MourningHouseModel", "count", "(I)I"⟩ ⟨"MourningHouseModel", "count", "(I)I"⟩ ∈ am_TW := am_tk10 (List.mem_of_getElem? (i := 230) (by decide +kernel)) rfl
theorem dl_0 : decode lw_Y.2.1 0 = .ok (.new 7, 3) := by decide +kernel
theorem dl_3 : decode lw_Y.2.1 3 = .ok (.dup, 1) := by decide +kernel
theorem dl_4 : decode lw_Y.2.1 4 = .ok (.invokespecial 9, 3) := by decide +kernel
theorem dl_7 : decode lw_Y.2.1 7 = .ok (.astore_n 1, 1) := by decide +kernel
theorem dl_8 : decode lw_Y.2.1 8 = .ok (.new 10, 3) := by decide +kernel
theorem dl_11 : decode lw_Y.2.1 11 = .ok (.dup, 1) := by decide +kernel
theorem dl_12 : decode lw_Y.2.1 12 = .ok (.invokespecial 12, 3) := by decide +kernel
theorem dl_15 : decode lw_Y.2.1 15 = .ok (.astore_n 2, 1) := by decide +kernel
theorem dl_16 : decode lw_Y.2.1 16 = .ok (.iconst 0, 1) := by decide +kernel
theorem dl_17 : decode lw_Y.2.1 17 = .ok (.istore_n 3, 1) := by decide +kernel
theorem dl_18 : decode lw_Y.2.1 18 = .ok (.iload_n 3, 1) := by decide +kernel
theorem dl_19 : decode lw_Y.2.1 19 = .ok (.aload_n 0, 1) := by decide +kernel
theorem dl_20 : decode lw_Y.2.1 20 = .ok (.arraylength, 1) := by decide +kernel
theorem dl_21 : decode lw_Y.2.1 21 = .ok (.bipush 6, 2) := by decide +kernel
theorem dl_23 : decode lw_Y.2.1 23 = .ok (.isub, 1) := by decide +kernel
theorem dl_24 : decode lw_Y.2.1 24 = .ok (.if_icmp .gt 1405, 3) := by decide +kernel
theorem dl_27 : decode lw_Y.2.1 27 = .ok (.aload_n 0, 1) := by decide +kernel
theorem dl_28 : decode lw_Y.2.1 28 = .ok (.iload_n 3, 1) := by decide +kernel
theorem dl_29 : decode lw_Y.2.1 29 = .ok (.iaload, 1) := by decide +kernel
theorem dl_30 : decode lw_Y.2.1 30 = .ok (.bipush 63, 2) := by decide +kernel
theorem dl_32 : decode lw_Y.2.1 32 = .ok (.iand, 1) := by decide +kernel
theorem dl_33 : decode lw_Y.2.1 33 = .ok (.tableswitch 1390 0 34 #[155, 218, 241, 254, 277, 300, 323, 356, 379, 432, 465, 508, 551, 604, 647, 690, 723, 756, 809, 842, 875, 928, 971, 1004, 1037, 1060, 1093, 1126, 1169, 1212, 1245, 1268, 1301, 1334, 1367], 155) := by decide +kernel
theorem dl_188 : decode lw_Y.2.1 188 = .ok (.aload_n 1, 1) := by decide +kernel
theorem dl_189 : decode lw_Y.2.1 189 = .ok (.aload_n 0, 1) := by decide +kernel
theorem dl_190 : decode lw_Y.2.1 190 = .ok (.iload_n 3, 1) := by decide +kernel
theorem dl_191 : decode lw_Y.2.1 191 = .ok (.iconst 1, 1) := by decide +kernel
theorem dl_192 : decode lw_Y.2.1 192 = .ok (.iadd, 1) := by decide +kernel
theorem dl_193 : decode lw_Y.2.1 193 = .ok (.iaload, 1) := by decide +kernel
theorem dl_194 : decode lw_Y.2.1 194 = .ok (.aload_n 0, 1) := by decide +kernel
theorem dl_195 : decode lw_Y.2.1 195 = .ok (.iload_n 3, 1) := by decide +kernel
theorem dl_196 : decode lw_Y.2.1 196 = .ok (.iconst 2, 1) := by decide +kernel
theorem dl_197 : decode lw_Y.2.1 197 = .ok (.iadd, 1) := by decide +kernel
theorem dl_198 : decode lw_Y.2.1 198 = .ok (.iaload, 1) := by decide +kernel
theorem dl_199 : decode lw_Y.2.1 199 = .ok (.aload_n 0, 1) := by decide +kernel
theorem dl_200 : decode lw_Y.2.1 200 = .ok (.iload_n 3, 1) := by decide +kernel
theorem dl_201 : decode lw_Y.2.1 201 = .ok (.iconst 3, 1) := by decide +kernel
theorem dl_202 : decode lw_Y.2.1 202 = .ok (.iadd, 1) := by decide +kernel
theorem dl_203 : decode lw_Y.2.1 203 = .ok (.iaload, 1) := by decide +kernel
theorem dl_204 : decode lw_Y.2.1 204 = .ok (.aload_n 0, 1) := by decide +kernel
theorem dl_205 : decode lw_Y.2.1 205 = .ok (.iload_n 3, 1) := by decide +kernel
theorem dl_206 : decode lw_Y.2.1 206 = .ok (.iconst 4, 1) := by decide +kernel
theorem dl_207 : decode lw_Y.2.1 207 = .ok (.iadd, 1) := by decide +kernel
theorem dl_208 : decode lw_Y.2.1 208 = .ok (.iaload, 1) := by decide +kernel
theorem dl_209 : decode lw_Y.2.1 209 = .ok (.aload_n 0, 1) := by decide +kernel
theorem dl_210 : decode lw_Y.2.1 210 = .ok (.iload_n 3, 1) := by decide +kernel
theorem dl_211 : decode lw_Y.2.1 211 = .ok (.iconst 5, 1) := by decide +kernel
theorem dl_212 : decode lw_Y.2.1 212 = .ok (.iadd, 1) := by decide +kernel
theorem dl_213 : decode lw_Y.2.1 213 = .ok (.iaload, 1) := by decide +kernel
theorem dl_214 : decode lw_Y.2.1 214 = .ok (.invokevirtual 13, 3) := by decide +kernel
theorem dl_217 : decode lw_Y.2.1 217 = .ok (.aload_n 2, 1) := by decide +kernel
theorem dl_218 : decode lw_Y.2.1 218 = .ok (.aload_n 0, 1) := by decide +kernel
theorem dl_219 : decode lw_Y.2.1 219 = .ok (.iload_n 3, 1) := by decide +kernel
theorem dl_220 : decode lw_Y.2.1 220 = .ok (.iconst 1, 1) := by decide +kernel
theorem dl_221 : decode lw_Y.2.1 221 = .ok (.iadd, 1) := by decide +kernel
theorem dl_222 : decode lw_Y.2.1 222 = .ok (.iaload, 1) := by decide +kernel
theorem dl_223 : decode lw_Y.2.1 223 = .ok (.aload_n 0, 1) := by decide +kernel
theorem dl_224 : decode lw_Y.2.1 224 = .ok (.iload_n 3, 1) := by decide +kernel
theorem dl_225 : decode lw_Y.2.1 225 = .ok (.iconst 2, 1) := by decide +kernel
theorem dl_226 : decode lw_Y.2.1 226 = .ok (.iadd, 1) := by decide +kernel
theorem dl_227 : decode lw_Y.2.1 227 = .ok (.iaload, 1) := by decide +kernel
theorem dl_228 : decode lw_Y.2.1 228 = .ok (.aload_n 0, 1) := by decide +kernel
theorem dl_229 : decode lw_Y.2.1 229 = .ok (.iload_n 3, 1) := by decide +kernel
theorem dl_230 : decode lw_Y.2.1 230 = .ok (.iconst 3, 1) := by decide +kernel
theorem dl_231 : decode lw_Y.2.1 231 = .ok (.iadd, 1) := by decide +kernel
theorem dl_232 : decode lw_Y.2.1 232 = .ok (.iaload, 1) := by decide +kernel
theorem dl_233 : decode lw_Y.2.1 233 = .ok (.aload_n 0, 1) := by decide +kernel
theorem dl_234 : decode lw_Y.2.1 234 = .ok (.iload_n 3, 1) := by decide +kernel
theorem dl_235 : decode lw_Y.2.1 235 = .ok (.iconst 4, 1) := by decide +kernel
theorem dl_236 : decode lw_Y.2.1 236 = .ok (.iadd, 1) := by decide +kernel
theorem dl_237 : decode lw_Y.2.1 237 = .ok (.iaload, 1) := by decide +kernel
theorem dl_238 : decode lw_Y.2.1 238 = .ok (.aload_n 0, 1) := by decide +kernel
theorem dl_239 : decode lw_Y.2.1 239 = .ok (.iload_n 3, 1) := by decide +kernel
theorem dl_240 : decode lw_Y.2.1 240 = .ok (.iconst 5, 1) := by decide +kernel
theorem dl_241 : decode lw_Y.2.1 241 = .ok (.iadd, 1) := by decide +kernel
theorem dl_242 : decode lw_Y.2.1 242 = .ok (.iaload, 1) := by decide +kernel
theorem dl_243 : decode lw_Y.2.1 243 = .ok (.invokevirtual 17, 3) := by decide +kernel
theorem dl_246 : decode lw_Y.2.1 246 = .ok (.if_icmp .eq 1177, 3) := by decide +kernel
theorem dl_249 : decode lw_Y.2.1 249 = .ok (.iconst 0, 1) := by decide +kernel
theorem dl_250 : decode lw_Y.2.1 250 = .ok (.ireturn, 1) := by decide +kernel
theorem dl_251 : decode lw_Y.2.1 251 = .ok (.aload_n 1, 1) := by decide +kernel
theorem dl_252 : decode lw_Y.2.1 252 = .ok (.aload_n 0, 1) := by decide +kernel
theorem dl_253 : decode lw_Y.2.1 253 = .ok (.iload_n 3, 1) := by decide +kernel
theorem dl_254 : decode lw_Y.2.1 254 = .ok (.iconst 1, 1) := by decide +kernel
theorem dl_255 : decode lw_Y.2.1 255 = .ok (.iadd, 1) := by decide +kernel
theorem dl_256 : decode lw_Y.2.1 256 = .ok (.iaload, 1) := by decide +kernel
theorem dl_257 : decode lw_Y.2.1 257 = .ok (.invokevirtual 18, 3) := by decide +kernel
theorem dl_260 : decode lw_Y.2.1 260 = .ok (.aload_n 2, 1) := by decide +kernel
theorem dl_261 : decode lw_Y.2.1 261 = .ok (.aload_n 0, 1) := by decide +kernel
theorem dl_262 : decode lw_Y.2.1 262 = .ok (.iload_n 3, 1) := by decide +kernel
theorem dl_263 : decode lw_Y.2.1 263 = .ok (.iconst 1, 1) := by decide +kernel
theorem dl_264 : decode lw_Y.2.1 264 = .ok (.iadd, 1) := by decide +kernel
theorem dl_265 : decode lw_Y.2.1 265 = .ok (.iaload, 1) := by decide +kernel
theorem dl_266 : decode lw_Y.2.1 266 = .ok (.invokevirtual 22, 3) := by decide +kernel
theorem dl_269 : decode lw_Y.2.1 269 = .ok (.if_icmp .eq 1154, 3) := by decide +kernel
theorem dl_272 : decode lw_Y.2.1 272 = .ok (.iconst 0, 1) := by decide +kernel
theorem dl_273 : decode lw_Y.2.1 273 = .ok (.ireturn, 1) := by decide +kernel
theorem dl_274 : decode lw_Y.2.1 274 = .ok (.aload_n 1, 1) := by decide +kernel
theorem dl_275 : decode lw_Y.2.1 275 = .ok (.invokevirtual 23, 3) := by decide +kernel
theorem dl_278 : decode lw_Y.2.1 278 = .ok (.aload_n 2, 1) := by decide +kernel
theorem dl_279 : decode lw_Y.2.1 279 = .ok (.invokevirtual 27, 3) := by decide +kernel
theorem dl_282 : decode lw_Y.2.1 282 = .ok (.if_icmp .eq 1141, 3) := by decide +kernel
theorem dl_285 : decode lw_Y.2.1 285 = .ok (.iconst 0, 1) := by decide +kernel
theorem dl_286 : decode lw_Y.2.1 286 = .ok (.ireturn, 1) := by decide +kernel
theorem dl_287 : decode lw_Y.2.1 287 = .ok (.aload_n 1, 1) := by decide +kernel
theorem dl_288 : decode lw_Y.2.1 288 = .ok (.aload_n 0, 1) := by decide +kernel
theorem dl_289 : decode lw_Y.2.1 289 = .ok (.iload_n 3, 1) := by decide +kernel
theorem dl_290 : decode lw_Y.2.1 290 = .ok (.iconst 1, 1) := by decide +kernel
theorem dl_291 : decode lw_Y.2.1 291 = .ok (.iadd, 1) := by decide +kernel
theorem dl_292 : decode lw_Y.2.1 292 = .ok (.iaload, 1) := by decide +kernel
theorem dl_293 : decode lw_Y.2.1 293 = .ok (.invokevirtual 28, 3) := by decide +kernel
theorem dl_296 : decode lw_Y.2.1 296 = .ok (.aload_n 2, 1) := by decide +kernel
theorem dl_297 : decode lw_Y.2.1 297 = .ok (.aload_n 0, 1) := by decide +kernel
theorem dl_298 : decode lw_Y.2.1 298 = .ok (.iload_n 3, 1) := by decide +kernel
theorem dl_299 : decode lw_Y.2.1 299 = .ok (.iconst 1, 1) := by decide +kernel
theorem dl_300 : decode lw_Y.2.1 300 = .ok (.iadd, 1) := by decide +kernel
theorem dl_301 : decode lw_Y.2.1 301 = .ok (.iaload, 1) := by decide +kernel
theorem dl_302 : decode lw_Y.2.1 302 = .ok (.invokevirtual 32, 3) := by decide +kernel
theorem dl_305 : decode lw_Y.2.1 305 = .ok (.if_icmp .eq 1118, 3) := by decide +kernel
theorem dl_308 : decode lw_Y.2.1 308 = .ok (.iconst 0, 1) := by decide +kernel
theorem dl_309 : decode lw_Y.2.1 309 = .ok (.ireturn, 1) := by decide +kernel
theorem dl_310 : decode lw_Y.2.1 310 = .ok (.aload_n 1, 1) := by decide +kernel
theorem dl_311 : decode lw_Y.2.1 311 = .ok (.aload_n 0, 1) := by decide +kernel
theorem dl_312 : decode lw_Y.2.1 312 = .ok (.iload_n 3, 1) := by decide +kernel
theorem dl_313 : decode lw_Y.2.1 313 = .ok (.iconst 1, 1) := by decide +kernel
theorem dl_314 : decode lw_Y.2.1 314 = .ok (.iadd, 1) := by decide +kernel
theorem dl_315 : decode lw_Y.2.1 315 = .ok (.iaload, 1) := by decide +kernel
theorem dl_316 : decode lw_Y.2.1 316 = .ok (.invokevirtual 33, 3) := by decide +kernel
theorem dl_319 : decode lw_Y.2.1 319 = .ok (.aload_n 2, 1) := by decide +kernel
theorem dl_320 : decode lw_Y.2.1 320 = .ok (.aload_n 0, 1) := by decide +kernel
theorem dl_321 : decode lw_Y.2.1 321 = .ok (.iload_n 3, 1) := by decide +kernel
theorem dl_322 : decode lw_Y.2.1 322 = .ok (.iconst 1, 1) := by decide +kernel
theorem dl_323 : decode lw_Y.2.1 323 = .ok (.iadd, 1) := by decide +kernel
theorem dl_324 : decode lw_Y.2.1 324 = .ok (.iaload, 1) := by decide +kernel
theorem dl_325 : decode lw_Y.2.1 325 = .ok (.invokevirtual 36, 3) := by decide +kernel
theorem dl_328 : decode lw_Y.2.1 328 = .ok (.if_icmp .eq 1095, 3) := by decide +kernel
theorem dl_331 : decode lw_Y.2.1 331 = .ok (.iconst 0, 1) := by decide +kernel
theorem dl_332 : decode lw_Y.2.1 332 = .ok (.ireturn, 1) := by decide +kernel
theorem dl_333 : decode lw_Y.2.1 333 = .ok (.aload_n 1, 1) := by decide +kernel
theorem dl_334 : decode lw_Y.2.1 334 = .ok (.aload_n 0, 1) := by decide +kernel
theorem dl_335 : decode lw_Y.2.1 335 = .ok (.iload_n 3, 1) := by decide +kernel
theorem dl_336 : decode lw_Y.2.1 336 = .ok (.iconst 1, 1) := by decide +kernel
theorem dl_337 : decode lw_Y.2.1 337 = .ok (.iadd, 1) := by decide +kernel
theorem dl_338 : decode lw_Y.2.1 338 = .ok (.iaload, 1) := by decide +kernel
theorem dl_339 : decode lw_Y.2.1 339 = .ok (.invokevirtual 37, 3) := by decide +kernel
theorem dl_342 : decode lw_Y.2.1 342 = .ok (.aload_n 2, 1) := by decide +kernel
theorem dl_343 : decode lw_Y.2.1 343 = .ok (.aload_n 0, 1) := by decide +kernel
theorem dl_344 : decode lw_Y.2.1 344 = .ok (.iload_n 3, 1) := by decide +kernel
theorem dl_345 : decode lw_Y.2.1 345 = .ok (.iconst 1, 1) := by decide +kernel
theorem dl_346 : decode lw_Y.2.1 346 = .ok (.iadd, 1) := by decide +kernel
theorem dl_347 : decode lw_Y.2.1 347 = .ok (.iaload, 1) := by decide +kernel
theorem dl_348 : decode lw_Y.2.1 348 = .ok (.invokevirtual 40, 3) := by decide +kernel
theorem dl_351 : decode lw_Y.2.1 351 = .ok (.if_icmp .eq 1072, 3) := by decide +kernel
theorem dl_354 : decode lw_Y.2.1 354 = .ok (.iconst 0, 1) := by decide +kernel
theorem dl_355 : decode lw_Y.2.1 355 = .ok (.ireturn, 1) := by decide +kernel
theorem dl_356 : decode lw_Y.2.1 356 = .ok (.aload_n 1, 1) := by decide +kernel
theorem dl_357 : decode lw_Y.2.1 357 = .ok (.aload_n 0, 1) := by decide +kernel
theorem dl_358 : decode lw_Y.2.1 358 = .ok (.iload_n 3, 1) := by decide +kernel
theorem dl_359 : decode lw_Y.2.1 359 = .ok (.iconst 1, 1) := by decide +kernel
theorem dl_360 : decode lw_Y.2.1 360 = .ok (.iadd, 1) := by decide +kernel
theorem dl_361 : decode lw_Y.2.1 361 = .ok (.iaload, 1) := by decide +kernel
theorem dl_362 : decode lw_Y.2.1 362 = .ok (.aload_n 0, 1) := by decide +kernel
theorem dl_363 : decode lw_Y.2.1 363 = .ok (.iload_n 3, 1) := by decide +kernel
theorem dl_364 : decode lw_Y.2.1 364 = .ok (.iconst 2, 1) := by decide +kernel
theorem dl_365 : decode lw_Y.2.1 365 = .ok (.iadd, 1) := by decide +kernel
theorem dl_366 : decode lw_Y.2.1 366 = .ok (.iaload, 1) := by decide +kernel
theorem dl_367 : decode lw_Y.2.1 367 = .ok (.invokevirtual 41, 3) := by decide +kernel
theorem dl_370 : decode lw_Y.2.1 370 = .ok (.aload_n 2, 1) := by decide +kernel
theorem dl_371 : decode lw_Y.2.1 371 = .ok (.aload_n 0, 1) := by decide +kernel
theorem dl_372 : decode lw_Y.2.1 372 = .ok (.iload_n 3, 1) := by decide +kernel
theorem dl_373 : decode lw_Y.2.1 373 = .ok (.iconst 1, 1) := by decide +kernel
theorem dl_374 : decode lw_Y.2.1 374 = .ok (.iadd, 1) := by decide +kernel
theorem dl_375 : decode lw_Y.2.1 375 = .ok (.iaload, 1) := by decide +kernel
theorem dl_376 : decode lw_Y.2.1 376 = .ok (.aload_n 0, 1) := by decide +kernel
theorem dl_377 : decode lw_Y.2.1 377 = .ok (.iload_n 3, 1) := by decide +kernel
theorem dl_378 : decode lw_Y.2.1 378 = .ok (.iconst 2, 1) := by decide +kernel
theorem dl_379 : decode lw_Y.2.1 379 = .ok (.iadd, 1) := by decide +kernel
theorem dl_380 : decode lw_Y.2.1 380 = .ok (.iaload, 1) := by decide +kernel
theorem dl_381 : decode lw_Y.2.1 381 = .ok (.invokevirtual 45, 3) := by decide +kernel
theorem dl_384 : decode lw_Y.2.1 384 = .ok (.if_icmp .eq 1039, 3) := by decide +kernel
theorem dl_387 : decode lw_Y.2.1 387 = .ok (.iconst 0, 1) := by decide +kernel
theorem dl_388 : decode lw_Y.2.1 388 = .ok (.ireturn, 1) := by decide +kernel
theorem dl_389 : decode lw_Y.2.1 389 = .ok (.aload_n 1, 1) := by decide +kernel
theorem dl_390 : decode lw_Y.2.1 390 = .ok (.aload_n 0, 1) := by decide +kernel
theorem dl_391 : decode lw_Y.2.1 391 = .ok (.iload_n 3, 1) := by decide +kernel
theorem dl_392 : decode lw_Y.2.1 392 = .ok (.iconst 1, 1) := by decide +kernel
theorem dl_393 : decode lw_Y.2.1 393 = .ok (.iadd, 1) := by decide +kernel
theorem dl_394 : decode lw_Y.2.1 394 = .ok (.iaload, 1) := by decide +kernel
theorem dl_395 : decode lw_Y.2.1 395 = .ok (.invokevirtual 46, 3) := by decide +kernel
theorem dl_398 : decode lw_Y.2.1 398 = .ok (.aload_n 2, 1) := by decide +kernel
theorem dl_399 : decode lw_Y.2.1 399 = .ok (.aload_n 0, 1) := by decide +kernel
theorem dl_400 : decode lw_Y.2.1 400 = .ok (.iload_n 3, 1) := by decide +kernel
theorem dl_401 : decode lw_Y.2.1 401 = .ok (.iconst 1, 1) := by decide +kernel
theorem dl_402 : decode lw_Y.2.1 402 = .ok (.iadd, 1) := by decide +kernel
theorem dl_403 : decode lw_Y.2.1 403 = .ok (.iaload, 1) := by decide +kernel
theorem dl_404 : decode lw_Y.2.1 404 = .ok (.invokevirtual 49, 3) := by decide +kernel
theorem dl_407 : decode lw_Y.2.1 407 = .ok (.if_icmp .eq 1016, 3) := by decide +kernel
theorem dl_410 : decode lw_Y.2.1 410 = .ok (.iconst 0, 1) := by decide +kernel
theorem dl_411 : decode lw_Y.2.1 411 = .ok (.ireturn, 1) := by decide +kernel
theorem dl_412 : decode lw_Y.2.1 412 = .ok (.aload_n 1, 1) := by decide +kernel
theorem dl_413 : decode lw_Y.2.1 413 = .ok (.aload_n 0, 1) := by decide +kernel
theorem dl_414 : decode lw_Y.2.1 414 = .ok (.iload_n 3, 1) := by decide +kernel
theorem dl_415 : decode lw_Y.2.1 415 = .ok (.iconst 1, 1) := by decide +kernel
theorem dl_416 : decode lw_Y.2.1 416 = .ok (.iadd, 1) := by decide +kernel
theorem dl_417 : decode lw_Y.2.1 417 = .ok (.iaload, 1) := by decide +kernel
theorem dl_418 : decode lw_Y.2.1 418 = .ok (.aload_n 0, 1) := by decide +kernel
theorem dl_419 : decode lw_Y.2.1 419 = .ok (.iload_n 3, 1) := by decide +kernel
theorem dl_420 : decode lw_Y.2.1 420 = .ok (.iconst 2, 1) := by decide +kernel
theorem dl_421 : decode lw_Y.2.1 421 = .ok (.iadd, 1) := by decide +kernel
theorem dl_422 : decode lw_Y.2.1 422 = .ok (.iaload, 1) := by decide +kernel
theorem dl_423 : decode lw_Y.2.1 423 = .ok (.aload_n 0, 1) := by decide +kernel
