-- decode rows and words of the StringBuilder chain
theorem wd_108 : Cond.selects "MourningHouseModel" ⟨"MourningHouseModel", "writes", "(Ljava/lang/String;Z)V"⟩ ⟨"MourningHouseModel", "writes", "(Ljava/lang/String;Z)V"⟩ ∈ am_TW := am_tw 108 (by decide +kernel) rfl
theorem wd_131 : Cond.initialized "java/lang/AbstractStringBuilder" ∈ am_TW := am_tk1 (List.mem_of_getElem? (i := 20) (by decide +kernel)) rfl
theorem wd_132 : Cond.initialized "java/lang/StringBuilder" ∈ am_TW := am_tk1 (List.mem_of_getElem? (i := 21) (by decide +kernel)) rfl
theorem wd_134 : Cond.initialized "java/util/Arrays" ∈ am_TW := am_tk1 (List.mem_of_getElem? (i := 23) (by decide +kernel)) rfl
theorem wd_135 : Cond.initialized "java/lang/System" ∈ am_TW := am_tk1 (List.mem_of_getElem? (i := 24) (by decide +kernel)) rfl
theorem wd_142 : Cond.instanceMethod ⟨"java/lang/Object", "<init>", "()V"⟩ ∈ am_TW := am_tk1 (List.mem_of_getElem? (i := 31) (by decide +kernel)) rfl
theorem wd_143 : Cond.code ⟨"java/lang/Object", "<init>", "()V"⟩ object_method_1_code 1 (none : Option Jvm.ClassFile.FieldType) ∈ am_TW := am_tk1 (List.mem_of_getElem? (i := 32) (by decide +kernel)) rfl
theorem wd_782 : Cond.static ⟨"java/lang/Math", "min", "(II)I"⟩ ∈ am_TW := am_tk3 (List.mem_of_getElem? (i := 191) (by decide +kernel)) rfl
theorem wd_916 : Cond.arrayClass .byte ∈ am_TW := am_tk4 (List.mem_of_getElem? (i := 85) (by decide +kernel)) rfl
theorem wd_2258 : Cond.methodLink "MourningHouseModel" 637 ⟨"MourningHouseModel", "writes", "(Ljava/lang/String;Z)V"⟩ ∈ am_TW := am_tk9 (List.mem_of_getElem? (i := 227) (by decide +kernel)) rfl
theorem wd_2260 : Cond.instanceMethod ⟨"MourningHouseModel", "writes", "(Ljava/lang/String;Z)V"⟩ ∈ am_TW := am_tk9 (List.mem_of_getElem? (i := 229) (by decide +kernel)) rfl
theorem wd_2264 : Cond.classLink "MourningHouseModel" 645 "java/lang/StringBuilder" ∈ am_TW := am_tk9 (List.mem_of_getElem? (i := 233) (by decide +kernel)) rfl
theorem wd_2265 : Cond.instantiable "java/lang/StringBuilder" 4 ∈ am_TW := am_tk9 (List.mem_of_getElem? (i := 234) (by decide +kernel)) rfl
theorem wd_2266 : Cond.methodLink "MourningHouseModel" 647 ⟨"java/lang/StringBuilder", "<init>", "()V"⟩ ∈ am_TW := am_tk9 (List.mem_of_getElem? (i := 235) (by decide +kernel)) rfl
theorem wd_2267 : Cond.instanceMethod ⟨"java/lang/StringBuilder", "<init>", "()V"⟩ ∈ am_TW := am_tk9 (List.mem_of_getElem? (i := 236) (by decide +kernel)) rfl
theorem wd_2269 : Cond.methodLink "java/lang/StringBuilder" 1 ⟨"java/lang/AbstractStringBuilder", "<init>", "(I)V"⟩ ∈ am_TW := am_tk9 (List.mem_of_getElem? (i := 238) (by decide +kernel)) rfl
theorem wd_2270 : Cond.instanceMethod ⟨"java/lang/AbstractStringBuilder", "<init>", "(I)V"⟩ ∈ am_TW := am_tk9 (List.mem_of_getElem? (i := 239) (by decide +kernel)) rfl
theorem wd_2272 : Cond.methodLink "java/lang/AbstractStringBuilder" 3 ⟨"java/lang/Object", "<init>", "()V"⟩ ∈ am_TW := am_tk10 (List.mem_of_getElem? (i := 1) (by decide +kernel)) rfl
theorem wd_2273 : Cond.fieldLink "java/lang/AbstractStringBuilder" 18 "java/lang/String" "COMPACT_STRINGS" "Z" ∈ am_TW := am_tk10 (List.mem_of_getElem? (i := 2) (by decide +kernel)) rfl
theorem wd_2274 : Cond.methodLink "java/lang/AbstractStringBuilder" 26 ⟨"java/lang/StringUTF16", "newBytesFor", "(I)[B"⟩ ∈ am_TW := am_tk10 (List.mem_of_getElem? (i := 3) (by decide +kernel)) rfl
theorem wd_2275 : Cond.static ⟨"java/lang/StringUTF16", "newBytesFor", "(I)[B"⟩ ∈ am_TW := am_tk10 (List.mem_of_getElem? (i := 4) (by decide +kernel)) rfl
theorem wd_2281 : Cond.fieldLink "java/lang/AbstractStringBuilder" 15 "java/lang/AbstractStringBuilder" "value" "[B" ∈ am_TW := am_tk10 (List.mem_of_getElem? (i := 10) (by decide +kernel)) rfl
theorem wd_2282 : Cond.fieldLink "java/lang/AbstractStringBuilder" 22 "java/lang/AbstractStringBuilder" "coder" "B" ∈ am_TW := am_tk10 (List.mem_of_getElem? (i := 11) (by decide +kernel)) rfl
theorem wd_2283 : Cond.fieldLink "java/lang/String" 1048 "java/lang/AbstractStringBuilder" "maybeLatin1" "Z" ∈ am_TW := am_tk10 (List.mem_of_getElem? (i := 12) (by decide +kernel)) rfl
theorem wd_2284 : Cond.fieldLink "java/lang/AbstractStringBuilder" 79 "java/lang/AbstractStringBuilder" "count" "I" ∈ am_TW := am_tk10 (List.mem_of_getElem? (i := 13) (by decide +kernel)) rfl
theorem wd_2293 : Cond.superclass "java/lang/StringBuilder" "java/lang/AbstractStringBuilder" ∈ am_TW := am_tk10 (List.mem_of_getElem? (i := 22) (by decide +kernel)) rfl
theorem wd_2295 : Cond.methodLink "MourningHouseModel" 650 ⟨"java/lang/StringBuilder", "append", "(Ljava/lang/String;)Ljava/lang/StringBuilder;"⟩ ∈ am_TW := am_tk10 (List.mem_of_getElem? (i := 24) (by decide +kernel)) rfl
theorem wd_2296 : Cond.instanceMethod ⟨"java/lang/StringBuilder", "append", "(Ljava/lang/String;)Ljava/lang/StringBuilder;"⟩ ∈ am_TW := am_tk10 (List.mem_of_getElem? (i := 25) (by decide +kernel)) rfl
theorem wd_2297 : Cond.selects "java/lang/StringBuilder" ⟨"java/lang/StringBuilder", "append", "(Ljava/lang/String;)Ljava/lang/StringBuilder;"⟩ ⟨"java/lang/StringBuilder", "append", "(Ljava/lang/String;)Ljava/lang/StringBuilder;"⟩ ∈ am_TW := am_tk10 (List.mem_of_getElem? (i := 26) (by decide +kernel)) rfl
theorem wd_2299 : Cond.methodLink "java/lang/StringBuilder" 29 ⟨"java/lang/AbstractStringBuilder", "append", "(Ljava/lang/String;)Ljava/lang/AbstractStringBuilder;"⟩ ∈ am_TW := am_tk10 (List.mem_of_getElem? (i := 28) (by decide +kernel)) rfl
theorem wd_2300 : Cond.instanceMethod ⟨"java/lang/AbstractStringBuilder", "append", "(Ljava/lang/String;)Ljava/lang/AbstractStringBuilder;"⟩ ∈ am_TW := am_tk10 (List.mem_of_getElem? (i := 29) (by decide +kernel)) rfl
theorem wd_2302 : Cond.methodLink "java/lang/AbstractStringBuilder" 204 ⟨"java/lang/AbstractStringBuilder", "appendNull", "()Ljava/lang/AbstractStringBuilder;"⟩ ∈ am_TW := am_tk10 (List.mem_of_getElem? (i := 31) (by decide +kernel)) rfl
theorem wd_2304 : Cond.instanceMethod ⟨"java/lang/AbstractStringBuilder", "appendNull", "()Ljava/lang/AbstractStringBuilder;"⟩ ∈ am_TW := am_tk10 (List.mem_of_getElem? (i := 33) (by decide +kernel)) rfl
theorem wd_2306 : Cond.methodLink "java/lang/AbstractStringBuilder" 100 ⟨"java/lang/AbstractStringBuilder", "ensureCapacityInternal", "(I)V"⟩ ∈ am_TW := am_tk10 (List.mem_of_getElem? (i := 35) (by decide +kernel)) rfl
theorem wd_2308 : Cond.instanceMethod ⟨"java/lang/AbstractStringBuilder", "ensureCapacityInternal", "(I)V"⟩ ∈ am_TW := am_tk10 (List.mem_of_getElem? (i := 37) (by decide +kernel)) rfl
theorem wd_2310 : Cond.methodLink "java/lang/AbstractStringBuilder" 104 ⟨"java/lang/AbstractStringBuilder", "newCapacity", "(I)I"⟩ ∈ am_TW := am_tk10 (List.mem_of_getElem? (i := 39) (by decide +kernel)) rfl
theorem wd_2312 : Cond.instanceMethod ⟨"java/lang/AbstractStringBuilder", "newCapacity", "(I)I"⟩ ∈ am_TW := am_tk10 (List.mem_of_getElem? (i := 41) (by decide +kernel)) rfl
theorem wd_2323 : Cond.methodLink "java/lang/AbstractStringBuilder" 108 ⟨"java/util/Arrays", "copyOf", "([BI)[B"⟩ ∈ am_TW := am_tk10 (List.mem_of_getElem? (i := 52) (by decide +kernel)) rfl
theorem wd_2324 : Cond.static ⟨"java/util/Arrays", "copyOf", "([BI)[B"⟩ ∈ am_TW := am_tk10 (List.mem_of_getElem? (i := 53) (by decide +kernel)) rfl
theorem wd_2333 : Cond.methodLink "java/util/Arrays" 304 ⟨"java/lang/Math", "min", "(II)I"⟩ ∈ am_TW := am_tk10 (List.mem_of_getElem? (i := 62) (by decide +kernel)) rfl
theorem wd_2334 : Cond.methodLink "java/util/Arrays" 150 ⟨"java/lang/System", "arraycopy", "(Ljava/lang/Object;ILjava/lang/Object;II)V"⟩ ∈ am_TW := am_tk10 (List.mem_of_getElem? (i := 63) (by decide +kernel)) rfl
theorem wd_2335 : Cond.static ⟨"java/lang/System", "arraycopy", "(Ljava/lang/Object;ILjava/lang/Object;II)V"⟩ ∈ am_TW := am_tk10 (List.mem_of_getElem? (i := 64) (by decide +kernel)) rfl
theorem wd_2336 : Cond.native ⟨"java/lang/System", "arraycopy", "(Ljava/lang/Object;ILjava/lang/Object;II)V"⟩ ∈ am_TW := am_tk10 (List.mem_of_getElem? (i := 65) (by decide +kernel)) rfl
theorem wd_2337 : Cond.methodLink "java/lang/AbstractStringBuilder" 83 ⟨"java/lang/AbstractStringBuilder", "isLatin1", "()Z"⟩ ∈ am_TW := am_tk10 (List.mem_of_getElem? (i := 66) (by decide +kernel)) rfl
theorem wd_2338 : Cond.instanceMethod ⟨"java/lang/AbstractStringBuilder", "isLatin1", "()Z"⟩ ∈ am_TW := am_tk10 (List.mem_of_getElem? (i := 67) (by decide +kernel)) rfl
theorem wd_2339 : Cond.sameMethod "java/lang/AbstractStringBuilder" "java/lang/AbstractStringBuilder" "isLatin1" "()Z" ∈ am_TW := am_tk10 (List.mem_of_getElem? (i := 68) (by decide +kernel)) rfl
theorem wd_2340 : Cond.selects "java/lang/StringBuilder" ⟨"java/lang/AbstractStringBuilder", "isLatin1", "()Z"⟩ ⟨"java/lang/AbstractStringBuilder", "isLatin1", "()Z"⟩ ∈ am_TW := am_tk10 (List.mem_of_getElem? (i := 69) (by decide +kernel)) rfl
theorem wd_2357 : Cond.methodLink "java/lang/AbstractStringBuilder" 32 ⟨"java/lang/String", "length", "()I"⟩ ∈ am_TW := am_tk10 (List.mem_of_getElem? (i := 86) (by decide +kernel)) rfl
theorem wd_2358 : Cond.methodLink "java/lang/AbstractStringBuilder" 208 ⟨"java/lang/AbstractStringBuilder", "putStringAt", "(ILjava/lang/String;)V"⟩ ∈ am_TW := am_tk10 (List.mem_of_getElem? (i := 87) (by decide +kernel)) rfl
theorem wd_2360 : Cond.instanceMethod ⟨"java/lang/AbstractStringBuilder", "putStringAt", "(ILjava/lang/String;)V"⟩ ∈ am_TW := am_tk10 (List.mem_of_getElem? (i := 89) (by decide +kernel)) rfl
theorem wd_2362 : Cond.methodLink "java/lang/AbstractStringBuilder" 397 ⟨"java/lang/AbstractStringBuilder", "inflateIfNeededFor", "(Ljava/lang/String;)V"⟩ ∈ am_TW := am_tk10 (List.mem_of_getElem? (i := 91) (by decide +kernel)) rfl
theorem wd_2364 : Cond.instanceMethod ⟨"java/lang/AbstractStringBuilder", "inflateIfNeededFor", "(Ljava/lang/String;)V"⟩ ∈ am_TW := am_tk10 (List.mem_of_getElem? (i := 93) (by decide +kernel)) rfl
theorem wd_2366 : Cond.methodLink "java/lang/AbstractStringBuilder" 40 ⟨"java/lang/String", "coder", "()B"⟩ ∈ am_TW := am_tk10 (List.mem_of_getElem? (i := 95) (by decide +kernel)) rfl
theorem wd_2367 : Cond.methodLink "java/lang/AbstractStringBuilder" 195 ⟨"java/lang/AbstractStringBuilder", "inflate", "()V"⟩ ∈ am_TW := am_tk10 (List.mem_of_getElem? (i := 96) (by decide +kernel)) rfl
theorem wd_2369 : Cond.instanceMethod ⟨"java/lang/AbstractStringBuilder", "inflate", "()V"⟩ ∈ am_TW := am_tk10 (List.mem_of_getElem? (i := 98) (by decide +kernel)) rfl
theorem wd_2372 : Cond.static ⟨"java/lang/StringLatin1", "inflate", "([BI[BII)V"⟩ ∈ am_TW := am_tk10 (List.mem_of_getElem? (i := 101) (by decide +kernel)) rfl
theorem wd_2386 : Cond.methodLink "java/lang/AbstractStringBuilder" 399 ⟨"java/lang/String", "getBytes", "([BIB)V"⟩ ∈ am_TW := am_tk10 (List.mem_of_getElem? (i := 115) (by decide +kernel)) rfl
theorem wd_2387 : Cond.instanceMethod ⟨"java/lang/String", "getBytes", "([BIB)V"⟩ ∈ am_TW := am_tk10 (List.mem_of_getElem? (i := 116) (by decide +kernel)) rfl
theorem wd_2388 : Cond.selects "java/lang/String" ⟨"java/lang/String", "getBytes", "([BIB)V"⟩ ⟨"java/lang/String", "getBytes", "([BIB)V"⟩ ∈ am_TW := am_tk10 (List.mem_of_getElem? (i := 117) (by decide +kernel)) rfl
theorem wd_2390 : Cond.methodLink "java/lang/String" 212 ⟨"java/lang/System", "arraycopy", "(Ljava/lang/Object;ILjava/lang/Object;II)V"⟩ ∈ am_TW := am_tk10 (List.mem_of_getElem? (i := 119) (by decide +kernel)) rfl
theorem wd_2391 : Cond.methodLink "java/lang/String" 106 ⟨"java/lang/StringLatin1", "inflate", "([BI[BII)V"⟩ ∈ am_TW := am_tk10 (List.mem_of_getElem? (i := 120) (by decide +kernel)) rfl
theorem wd_2392 : Cond.methodLink "MourningHouseModel" 654 ⟨"java/lang/StringBuilder", "append", "(I)Ljava/lang/StringBuilder;"⟩ ∈ am_TW := am_tk10 (List.mem_of_getElem? (i := 121) (by decide +kernel)) rfl
theorem wd_2393 : Cond.instanceMethod ⟨"java/lang/StringBuilder", "append", "(I)Ljava/lang/StringBuilder;"⟩ ∈ am_TW := am_tk10 (List.mem_of_getElem? (i := 122) (by decide +kernel)) rfl
theorem wd_2394 : Cond.selects "java/lang/StringBuilder" ⟨"java/lang/StringBuilder", "append", "(I)Ljava/lang/StringBuilder;"⟩ ⟨"java/lang/StringBuilder", "append", "(I)Ljava/lang/StringBuilder;"⟩ ∈ am_TW := am_tk10 (List.mem_of_getElem? (i := 123) (by decide +kernel)) rfl
theorem wd_2396 : Cond.methodLink "java/lang/StringBuilder" 53 ⟨"java/lang/AbstractStringBuilder", "append", "(I)Ljava/lang/AbstractStringBuilder;"⟩ ∈ am_TW := am_tk10 (List.mem_of_getElem? (i := 125) (by decide +kernel)) rfl
theorem wd_2397 : Cond.instanceMethod ⟨"java/lang/AbstractStringBuilder", "append", "(I)Ljava/lang/AbstractStringBuilder;"⟩ ∈ am_TW := am_tk10 (List.mem_of_getElem? (i := 126) (by decide +kernel)) rfl
theorem wd_2399 : Cond.methodLink "java/lang/AbstractStringBuilder" 245 ⟨"java/lang/Integer", "stringSize", "(I)I"⟩ ∈ am_TW := am_tk10 (List.mem_of_getElem? (i := 128) (by decide +kernel)) rfl
theorem wd_2400 : Cond.static ⟨"java/lang/Integer", "stringSize", "(I)I"⟩ ∈ am_TW := am_tk10 (List.mem_of_getElem? (i := 129) (by decide +kernel)) rfl
theorem wd_2402 : Cond.methodLink "java/lang/AbstractStringBuilder" 248 ⟨"java/lang/Integer", "getChars", "(II[B)I"⟩ ∈ am_TW := am_tk10 (List.mem_of_getElem? (i := 131) (by decide +kernel)) rfl
theorem wd_2403 : Cond.static ⟨"java/lang/Integer", "getChars", "(II[B)I"⟩ ∈ am_TW := am_tk10 (List.mem_of_getElem? (i := 132) (by decide +kernel)) rfl
theorem wd_2405 : Cond.fieldLink "java/lang/Integer" 83 "java/lang/Integer" "DigitOnes" "[B" ∈ am_TW := am_tk10 (List.mem_of_getElem? (i := 134) (by decide +kernel)) rfl
theorem wd_2407 : Cond.fieldLink "java/lang/Integer" 87 "java/lang/Integer" "DigitTens" "[B" ∈ am_TW := am_tk10 (List.mem_of_getElem? (i := 136) (by decide +kernel)) rfl
theorem wd_2409 : Cond.methodLink "java/lang/AbstractStringBuilder" 251 ⟨"java/lang/StringUTF16", "getChars", "(III[B)I"⟩ ∈ am_TW := am_tk10 (List.mem_of_getElem? (i := 138) (by decide +kernel)) rfl
theorem wd_2410 : Cond.static ⟨"java/lang/StringUTF16", "getChars", "(III[B)I"⟩ ∈ am_TW := am_tk10 (List.mem_of_getElem? (i := 139) (by decide +kernel)) rfl
theorem wd_2417 : Cond.methodLink "MourningHouseModel" 657 ⟨"java/lang/StringBuilder", "toString", "()Ljava/lang/String;"⟩ ∈ am_TW := am_tk10 (List.mem_of_getElem? (i := 146) (by decide +kernel)) rfl
theorem wd_2418 : Cond.instanceMethod ⟨"java/lang/StringBuilder", "toString", "()Ljava/lang/String;"⟩ ∈ am_TW := am_tk10 (List.mem_of_getElem? (i := 147) (by decide +kernel)) rfl
theorem wd_2419 : Cond.selects "java/lang/StringBuilder" ⟨"java/lang/StringBuilder", "toString", "()Ljava/lang/String;"⟩ ⟨"java/lang/StringBuilder", "toString", "()Ljava/lang/String;"⟩ ∈ am_TW := am_tk10 (List.mem_of_getElem? (i := 148) (by decide +kernel)) rfl
theorem wd_2421 : Cond.classLink "java/lang/StringBuilder" 18 "java/lang/String" ∈ am_TW := am_tk10 (List.mem_of_getElem? (i := 150) (by decide +kernel)) rfl
theorem wd_2422 : Cond.instantiable "java/lang/String" 4 ∈ am_TW := am_tk10 (List.mem_of_getElem? (i := 151) (by decide +kernel)) rfl
theorem wd_2423 : Cond.methodLink "java/lang/StringBuilder" 137 ⟨"java/lang/String", "<init>", "(Ljava/lang/StringBuilder;)V"⟩ ∈ am_TW := am_tk10 (List.mem_of_getElem? (i := 152) (by decide +kernel)) rfl
theorem wd_2424 : Cond.instanceMethod ⟨"java/lang/String", "<init>", "(Ljava/lang/StringBuilder;)V"⟩ ∈ am_TW := am_tk10 (List.mem_of_getElem? (i := 153) (by decide +kernel)) rfl
theorem wd_2426 : Cond.methodLink "java/lang/String" 489 ⟨"java/lang/String", "<init>", "(Ljava/lang/AbstractStringBuilder;Ljava/lang/Void;)V"⟩ ∈ am_TW := am_tk10 (List.mem_of_getElem? (i := 155) (by decide +kernel)) rfl
theorem wd_2427 : Cond.instanceMethod ⟨"java/lang/String", "<init>", "(Ljava/lang/AbstractStringBuilder;Ljava/lang/Void;)V"⟩ ∈ am_TW := am_tk10 (List.mem_of_getElem? (i := 156) (by decide +kernel)) rfl
theorem wd_2429 : Cond.methodLink "java/lang/String" 1 ⟨"java/lang/Object", "<init>", "()V"⟩ ∈ am_TW := am_tk10 (List.mem_of_getElem? (i := 158) (by decide +kernel)) rfl
theorem wd_2430 : Cond.methodLink "java/lang/String" 552 ⟨"java/lang/AbstractStringBuilder", "getValue", "()[B"⟩ ∈ am_TW := am_tk10 (List.mem_of_getElem? (i := 159) (by decide +kernel)) rfl
theorem wd_2431 : Cond.instanceMethod ⟨"java/lang/AbstractStringBuilder", "getValue", "()[B"⟩ ∈ am_TW := am_tk10 (List.mem_of_getElem? (i := 160) (by decide +kernel)) rfl
theorem wd_2432 : Cond.sameMethod "java/lang/AbstractStringBuilder" "java/lang/AbstractStringBuilder" "getValue" "()[B" ∈ am_TW := am_tk10 (List.mem_of_getElem? (i := 161) (by decide +kernel)) rfl
theorem wd_2433 : Cond.selects "java/lang/StringBuilder" ⟨"java/lang/AbstractStringBuilder", "getValue", "()[B"⟩ ⟨"java/lang/AbstractStringBuilder", "getValue", "()[B"⟩ ∈ am_TW := am_tk10 (List.mem_of_getElem? (i := 162) (by decide +kernel)) rfl
theorem wd_2435 : Cond.methodLink "java/lang/String" 549 ⟨"java/lang/AbstractStringBuilder", "length", "()I"⟩ ∈ am_TW := am_tk10 (List.mem_of_getElem? (i := 164) (by decide +kernel)) rfl
theorem wd_2436 : Cond.instanceMethod ⟨"java/lang/AbstractStringBuilder", "length", "()I"⟩ ∈ am_TW := am_tk10 (List.mem_of_getElem? (i := 165) (by decide +kernel)) rfl
theorem wd_2437 : Cond.sameMethod "java/lang/AbstractStringBuilder" "java/lang/AbstractStringBuilder" "length" "()I" ∈ am_TW := am_tk10 (List.mem_of_getElem? (i := 166) (by decide +kernel)) rfl
theorem wd_2438 : Cond.selects "java/lang/StringBuilder" ⟨"java/lang/AbstractStringBuilder", "length", "()I"⟩ ⟨"java/lang/StringBuilder", "length", "()I"⟩ ∈ am_TW := am_tk10 (List.mem_of_getElem? (i := 167) (by decide +kernel)) rfl
theorem wd_2439 : Cond.instanceMethod ⟨"java/lang/StringBuilder", "length", "()I"⟩ ∈ am_TW := am_tk10 (List.mem_of_getElem? (i := 168) (by decide +kernel)) rfl
theorem wd_2441 : Cond.methodLink "java/lang/StringBuilder" 343 ⟨"java/lang/AbstractStringBuilder", "length", "()I"⟩ ∈ am_TW := am_tk10 (List.mem_of_getElem? (i := 170) (by decide +kernel)) rfl
theorem wd_2443 : Cond.methodLink "java/lang/String" 1047 ⟨"java/lang/AbstractStringBuilder", "isLatin1", "()Z"⟩ ∈ am_TW := am_tk10 (List.mem_of_getElem? (i := 172) (by decide +kernel)) rfl
theorem wd_2444 : Cond.methodLink "java/lang/String" 54 ⟨"java/util/Arrays", "copyOfRange", "([BII)[B"⟩ ∈ am_TW := am_tk10 (List.mem_of_getElem? (i := 173) (by decide +kernel)) rfl
theorem wd_2445 : Cond.static ⟨"java/util/Arrays", "copyOfRange", "([BII)[B"⟩ ∈ am_TW := am_tk10 (List.mem_of_getElem? (i := 174) (by decide +kernel)) rfl
theorem wd_2447 : Cond.methodLink "java/util/Arrays" 339 ⟨"java/util/Arrays", "copyOfRangeByte", "([BII)[B"⟩ ∈ am_TW := am_tk10 (List.mem_of_getElem? (i := 176) (by decide +kernel)) rfl
theorem wd_2448 : Cond.static ⟨"java/util/Arrays", "copyOfRangeByte", "([BII)[B"⟩ ∈ am_TW := am_tk10 (List.mem_of_getElem? (i := 177) (by decide +kernel)) rfl
theorem wd_2450 : Cond.methodLink "java/util/Arrays" 343 ⟨"java/util/Arrays", "checkLength", "(II)V"⟩ ∈ am_TW := am_tk10 (List.mem_of_getElem? (i := 179) (by decide +kernel)) rfl
theorem wd_2451 : Cond.static ⟨"java/util/Arrays", "checkLength", "(II)V"⟩ ∈ am_TW := am_tk10 (List.mem_of_getElem? (i := 180) (by decide +kernel)) rfl
theorem wd_2453 : Cond.methodLink "java/lang/String" 1051 ⟨"java/lang/StringUTF16", "compress", "([BII)[B"⟩ ∈ am_TW := am_tk10 (List.mem_of_getElem? (i := 182) (by decide +kernel)) rfl
theorem wd_2454 : Cond.static ⟨"java/lang/StringUTF16", "compress", "([BII)[B"⟩ ∈ am_TW := am_tk10 (List.mem_of_getElem? (i := 183) (by decide +kernel)) rfl
theorem wd_2460 : Cond.methodLink "java/lang/String" 47 ⟨"java/lang/StringUTF16", "coderFromArrayLen", "([BI)B"⟩ ∈ am_TW := am_tk10 (List.mem_of_getElem? (i := 189) (by decide +kernel)) rfl
theorem wd_2461 : Cond.static ⟨"java/lang/StringUTF16", "coderFromArrayLen", "([BI)B"⟩ ∈ am_TW := am_tk10 (List.mem_of_getElem? (i := 190) (by decide +kernel)) rfl
theorem wd_2503 : Cond.sameMethod "java/lang/AbstractStringBuilder" "java/lang/AbstractStringBuilder" "append" "(Ljava/lang/String;)Ljava/lang/AbstractStringBuilder;" ∈ am_TW := am_tk10 (List.mem_of_getElem? (i := 232) (by decide +kernel)) rfl
theorem wd_2505 : Cond.sameMethod "java/lang/AbstractStringBuilder" "java/lang/AbstractStringBuilder" "ensureCapacityInternal" "(I)V" ∈ am_TW := am_tk10 (List.mem_of_getElem? (i := 234) (by decide +kernel)) rfl
theorem wd_2507 : Cond.sameMethod "java/lang/AbstractStringBuilder" "java/lang/AbstractStringBuilder" "putStringAt" "(ILjava/lang/String;)V" ∈ am_TW := am_tk10 (List.mem_of_getElem? (i := 236) (by decide +kernel)) rfl
theorem wd_2508 : Cond.sameMethod "java/lang/AbstractStringBuilder" "java/lang/AbstractStringBuilder" "inflateIfNeededFor" "(Ljava/lang/String;)V" ∈ am_TW := am_tk10 (List.mem_of_getElem? (i := 237) (by decide +kernel)) rfl
theorem wd_2510 : Cond.sameMethod "java/lang/AbstractStringBuilder" "java/lang/AbstractStringBuilder" "append" "(I)Ljava/lang/AbstractStringBuilder;" ∈ am_TW := am_tk10 (List.mem_of_getElem? (i := 239) (by decide +kernel)) rfl
theorem wc_J0_getBytes_840e7 : am_code mJ0_getBytes_840e7 := am_tk10 (List.mem_of_getElem? (i := 118) (by decide +kernel)) rfl
theorem wc_J0_init_81219 : am_code mJ0_init_81219 := am_tk10 (List.mem_of_getElem? (i := 154) (by decide +kernel)) rfl
theorem wc_J0_init_db425 : am_code mJ0_init_db425 := am_tk10 (List.mem_of_getElem? (i := 157) (by decide +kernel)) rfl
theorem wc_J1_inflate_0e8fd : am_code mJ1_inflate_0e8fd := am_tk10 (List.mem_of_getElem? (i := 102) (by decide +kernel)) rfl
theorem wc_J2_coderFromArrayLen_85cad : am_code mJ2_coderFromArrayLen_85cad := am_tk10 (List.mem_of_getElem? (i := 191) (by decide +kernel)) rfl
theorem wc_J2_compress_39247 : am_code mJ2_compress_39247 := am_tk10 (List.mem_of_getElem? (i := 184) (by decide +kernel)) rfl
theorem wc_J2_getChars_46870 : am_code mJ2_getChars_46870 := am_tk10 (List.mem_of_getElem? (i := 140) (by decide +kernel)) rfl
theorem wc_J2_newBytesFor_77867 : am_code mJ2_newBytesFor_77867 := am_tk10 (List.mem_of_getElem? (i := 5) (by decide +kernel)) rfl
theorem wc_J4_append_15ec4 : am_code mJ4_append_15ec4 := am_tk10 (List.mem_of_getElem? (i := 27) (by decide +kernel)) rfl
theorem wc_J4_append_bf812 : am_code mJ4_append_bf812 := am_tk10 (List.mem_of_getElem? (i := 124) (by decide +kernel)) rfl
theorem wc_J4_init_da8c8 : am_code mJ4_init_da8c8 := am_tk9 (List.mem_of_getElem? (i := 237) (by decide +kernel)) rfl
theorem wc_J4_length_8abf5 : am_code mJ4_length_8abf5 := am_tk10 (List.mem_of_getElem? (i := 169) (by decide +kernel)) rfl
theorem wc_J4_toString_0e30d : am_code mJ4_toString_0e30d := am_tk10 (List.mem_of_getElem? (i := 149) (by decide +kernel)) rfl
theorem wc_J5_appendNull_278bc : am_code mJ5_appendNull_278bc := am_tk10 (List.mem_of_getElem? (i := 34) (by decide +kernel)) rfl
theorem wc_J5_append_c97b9 : am_code mJ5_append_c97b9 := am_tk10 (List.mem_of_getElem? (i := 127) (by decide +kernel)) rfl
theorem wc_J5_append_cf1ce : am_code mJ5_append_cf1ce := am_tk10 (List.mem_of_getElem? (i := 30) (by decide +kernel)) rfl
theorem wc_J5_ensureCapacityInternal_d00df : am_code mJ5_ensureCapacityInternal_d00df := am_tk10 (List.mem_of_getElem? (i := 38) (by decide +kernel)) rfl
theorem wc_J5_getValue_6d5f1 : am_code mJ5_getValue_6d5f1 := am_tk10 (List.mem_of_getElem? (i := 163) (by decide +kernel)) rfl
theorem wc_J5_inflateIfNeededFor_a7421 : am_code mJ5_inflateIfNeededFor_a7421 := am_tk10 (List.mem_of_getElem? (i := 94) (by decide +kernel)) rfl
theorem wc_J5_inflate_da8c8 : am_code mJ5_inflate_da8c8 := am_tk10 (List.mem_of_getElem? (i := 99) (by decide +kernel)) rfl
theorem wc_J5_init_d00df : am_code mJ5_init_d00df := am_tk10 (List.mem_of_getElem? (i := 0) (by decide +kernel)) rfl
theorem wc_J5_isLatin1_aae02 : am_code mJ5_isLatin1_aae02 := am_tk10 (List.mem_of_getElem? (i := 70) (by decide +kernel)) rfl
theorem wc_J5_length_8abf5 : am_code mJ5_length_8abf5 := am_tk10 (List.mem_of_getElem? (i := 171) (by decide +kernel)) rfl
theorem wc_J5_newCapacity_0f7a4 : am_code mJ5_newCapacity_0f7a4 := am_tk10 (List.mem_of_getElem? (i := 42) (by decide +kernel)) rfl
theorem wc_J5_putStringAt_47b60 : am_code mJ5_putStringAt_47b60 := am_tk10 (List.mem_of_getElem? (i := 90) (by decide +kernel)) rfl
theorem wc_J6_getChars_ba4f3 : am_code mJ6_getChars_ba4f3 := am_tk10 (List.mem_of_getElem? (i := 133) (by decide +kernel)) rfl
theorem wc_J6_stringSize_0f7a4 : am_code mJ6_stringSize_0f7a4 := am_tk10 (List.mem_of_getElem? (i := 130) (by decide +kernel)) rfl
theorem wc_J7_checkLength_df160 : am_code mJ7_checkLength_df160 := am_tk10 (List.mem_of_getElem? (i := 181) (by decide +kernel)) rfl
theorem wc_J7_copyOfRangeByte_39247 : am_code mJ7_copyOfRangeByte_39247 := am_tk10 (List.mem_of_getElem? (i := 178) (by decide +kernel)) rfl
theorem wc_J7_copyOfRange_39247 : am_code mJ7_copyOfRange_39247 := am_tk10 (List.mem_of_getElem? (i := 175) (by decide +kernel)) rfl
theorem wc_J7_copyOf_9075b : am_code mJ7_copyOf_9075b := am_tk10 (List.mem_of_getElem? (i := 54) (by decide +kernel)) rfl
theorem wc_J9_min_7cf53 : am_code mJ9_min_7cf53 := am_tk3 (List.mem_of_getElem? (i := 192) (by decide +kernel)) rfl
theorem ds_J0_getBytes_840e7 : am_ds mJ0_getBytes_840e7 3 := ⟨by decide, by decide, by decide +kernel⟩
theorem ds_J0_init_81219 : am_ds mJ0_init_81219 1 := ⟨by decide, by decide, by decide +kernel⟩
theorem ds_J0_init_db425 : am_ds mJ0_init_db425 2 := ⟨by decide, by decide, by decide +kernel⟩
theorem ds_J1_inflate_0e8fd : am_ds mJ1_inflate_0e8fd 5 := ⟨by decide, by decide, by decide +kernel⟩
theorem ds_J2_coderFromArrayLen_85cad : am_ds mJ2_coderFromArrayLen_85cad 2 := ⟨by decide, by decide, by decide +kernel⟩
theorem ds_J2_compress_39247 : am_ds mJ2_compress_39247 3 := ⟨by decide, by decide, by decide +kernel⟩
theorem ds_J2_getChars_46870 : am_ds mJ2_getChars_46870 4 := ⟨by decide, by decide, by decide +kernel⟩
theorem ds_J2_newBytesFor_77867 : am_ds mJ2_newBytesFor_77867 1 := ⟨by decide, by decide, by decide +kernel⟩
theorem ds_J4_append_15ec4 : am_ds mJ4_append_15ec4 1 := ⟨by decide, by decide, by decide +kernel⟩
theorem ds_J4_append_bf812 : am_ds mJ4_append_bf812 1 := ⟨by decide, by decide, by decide +kernel⟩
theorem ds_J4_init_da8c8 : am_ds mJ4_init_da8c8 0 := ⟨by decide, by decide, by decide +kernel⟩
theorem ds_J4_length_8abf5 : am_ds mJ4_length_8abf5 0 := ⟨by decide, by decide, by decide +kernel⟩
theorem ds_J4_toString_0e30d : am_ds mJ4_toString_0e30d 0 := ⟨by decide, by decide, by decide +kernel⟩
theorem ds_J5_appendNull_278bc : am_ds mJ5_appendNull_278bc 0 := ⟨by decide, by decide, by decide +kernel⟩
theorem ds_J5_append_c97b9 : am_ds mJ5_append_c97b9 1 := ⟨by decide, by decide, by decide +kernel⟩
theorem ds_J5_append_cf1ce : am_ds mJ5_append_cf1ce 1 := ⟨by decide, by decide, by decide +kernel⟩
theorem ds_J5_ensureCapacityInternal_d00df : am_ds mJ5_ensureCapacityInternal_d00df 1 := ⟨by decide, by decide, by decide +kernel⟩
theorem ds_J5_getValue_6d5f1 : am_ds mJ5_getValue_6d5f1 0 := ⟨by decide, by decide, by decide +kernel⟩
theorem ds_J5_inflateIfNeededFor_a7421 : am_ds mJ5_inflateIfNeededFor_a7421 1 := ⟨by decide, by decide, by decide +kernel⟩
theorem ds_J5_inflate_da8c8 : am_ds mJ5_inflate_da8c8 0 := ⟨by decide, by decide, by decide +kernel⟩
theorem ds_J5_init_d00df : am_ds mJ5_init_d00df 1 := ⟨by decide, by decide, by decide +kernel⟩
theorem ds_J5_isLatin1_aae02 : am_ds mJ5_isLatin1_aae02 0 := ⟨by decide, by decide, by decide +kernel⟩
theorem ds_J5_length_8abf5 : am_ds mJ5_length_8abf5 0 := ⟨by decide, by decide, by decide +kernel⟩
theorem ds_J5_newCapacity_0f7a4 : am_ds mJ5_newCapacity_0f7a4 1 := ⟨by decide, by decide, by decide +kernel⟩
theorem ds_J5_putStringAt_47b60 : am_ds mJ5_putStringAt_47b60 2 := ⟨by decide, by decide, by decide +kernel⟩
theorem ds_J6_getChars_ba4f3 : am_ds mJ6_getChars_ba4f3 3 := ⟨by decide, by decide, by decide +kernel⟩
theorem ds_J6_stringSize_0f7a4 : am_ds mJ6_stringSize_0f7a4 1 := ⟨by decide, by decide, by decide +kernel⟩
theorem ds_J7_checkLength_df160 : am_ds mJ7_checkLength_df160 2 := ⟨by decide, by decide, by decide +kernel⟩
theorem ds_J7_copyOfRangeByte_39247 : am_ds mJ7_copyOfRangeByte_39247 3 := ⟨by decide, by decide, by decide +kernel⟩
theorem ds_J7_copyOfRange_39247 : am_ds mJ7_copyOfRange_39247 3 := ⟨by decide, by decide, by decide +kernel⟩
theorem ds_J7_copyOf_9075b : am_ds mJ7_copyOf_9075b 2 := ⟨by decide, by decide, by decide +kernel⟩
theorem ds_J9_min_7cf53 : am_ds mJ9_min_7cf53 2 := ⟨by decide, by decide, by decide +kernel⟩
-- java/lang/StringBuilder.<init>()V
theorem dJ4_init_da8c8_0 : decode mJ4_init_da8c8.2.1 0 = .ok (.aload_n 0, 1) := by decide +kernel
theorem dJ4_init_da8c8_1 : decode mJ4_init_da8c8.2.1 1 = .ok (.bipush 16, 2) := by decide +kernel
theorem dJ4_init_da8c8_3 : decode mJ4_init_da8c8.2.1 3 = .ok (.invokespecial 1, 3) := by decide +kernel
-- 3 invokespecial J5_init_d00df: link wd_2269 init wd_131 inst wd_2270
theorem dJ4_init_da8c8_6 : decode mJ4_init_da8c8.2.1 6 = .ok (.return_, 1) := by decide +kernel
-- java/lang/AbstractStringBuilder.<init>(I)V
theorem dJ5_init_d00df_0 : decode mJ5_init_d00df.2.1 0 = .ok (.aload_n 0, 1) := by decide +kernel
theorem dJ5_init_d00df_1 : decode mJ5_init_d00df.2.1 1 = .ok (.invokespecial 3, 3) := by decide +kernel
-- 1 invokespecial ('M', 'java/lang/Object', '<init>', '()V')
theorem dJ5_init_d00df_4 : decode mJ5_init_d00df.2.1 4 = .ok (.getstatic 18, 3) := by decide +kernel
-- 4 getstatic COMPACT_STRINGS: wd_2273
theorem dJ5_init_d00df_7 : decode mJ5_init_d00df.2.1 7 = .ok (.ifCond .eq 18, 3) := by decide +kernel
theorem dJ5_init_d00df_10 : decode mJ5_init_d00df.2.1 10 = .ok (.aload_n 0, 1) := by decide +kernel
theorem dJ5_init_d00df_11 : decode mJ5_init_d00df.2.1 11 = .ok (.iload_n 1, 1) := by decide +kernel
theorem dJ5_init_d00df_12 : decode mJ5_init_d00df.2.1 12 = .ok (.newarray .byte, 2) := by decide +kernel
theorem dJ5_init_d00df_14 : decode mJ5_init_d00df.2.1 14 = .ok (.putfield 15, 3) := by decide +kernel
-- 14 putfield value: wd_2281
theorem dJ5_init_d00df_17 : decode mJ5_init_d00df.2.1 17 = .ok (.aload_n 0, 1) := by decide +kernel
theorem dJ5_init_d00df_18 : decode mJ5_init_d00df.2.1 18 = .ok (.iconst 0, 1) := by decide +kernel
theorem dJ5_init_d00df_19 : decode mJ5_init_d00df.2.1 19 = .ok (.putfield 22, 3) := by decide +kernel
-- 19 putfield coder: wd_2282
theorem dJ5_init_d00df_22 : decode mJ5_init_d00df.2.1 22 = .ok (.goto 16, 3) := by decide +kernel
theorem dJ5_init_d00df_25 : decode mJ5_init_d00df.2.1 25 = .ok (.aload_n 0, 1) := by decide +kernel
theorem dJ5_init_d00df_26 : decode mJ5_init_d00df.2.1 26 = .ok (.iload_n 1, 1) := by decide +kernel
theorem dJ5_init_d00df_27 : decode mJ5_init_d00df.2.1 27 = .ok (.invokestatic 26, 3) := by decide +kernel
-- 27 invokestatic J2_newBytesFor_77867: link wd_2274 init wd_127 static wd_2275
theorem dJ5_init_d00df_30 : decode mJ5_init_d00df.2.1 30 = .ok (.putfield 15, 3) := by decide +kernel
-- 30 putfield value: wd_2281
theorem dJ5_init_d00df_33 : decode mJ5_init_d00df.2.1 33 = .ok (.aload_n 0, 1) := by decide +kernel
theorem dJ5_init_d00df_34 : decode mJ5_init_d00df.2.1 34 = .ok (.iconst 1, 1) := by decide +kernel
theorem dJ5_init_d00df_35 : decode mJ5_init_d00df.2.1 35 = .ok (.putfield 22, 3) := by decide +kernel
-- 35 putfield coder: wd_2282
theorem dJ5_init_d00df_38 : decode mJ5_init_d00df.2.1 38 = .ok (.return_, 1) := by decide +kernel
-- java/lang/StringBuilder.append(I)Ljava/lang/StringBuilder;
theorem dJ4_append_bf812_0 : decode mJ4_append_bf812.2.1 0 = .ok (.aload_n 0, 1) := by decide +kernel
theorem dJ4_append_bf812_1 : decode mJ4_append_bf812.2.1 1 = .ok (.iload_n 1, 1) := by decide +kernel
theorem dJ4_append_bf812_2 : decode mJ4_append_bf812.2.1 2 = .ok (.invokespecial 53, 3) := by decide +kernel
-- 2 invokespecial J5_append_c97b9: link wd_2396 init wd_131 inst wd_2397
theorem dJ4_append_bf812_5 : decode mJ4_append_bf812.2.1 5 = .ok (.pop, 1) := by decide +kernel
theorem dJ4_append_bf812_6 : decode mJ4_append_bf812.2.1 6 = .ok (.aload_n 0, 1) := by decide +kernel
theorem dJ4_append_bf812_7 : decode mJ4_append_bf812.2.1 7 = .ok (.areturn, 1) := by decide +kernel
-- java/lang/StringBuilder.append(Ljava/lang/String;)Ljava/lang/StringBuilder;
theorem dJ4_append_15ec4_0 : decode mJ4_append_15ec4.2.1 0 = .ok (.aload_n 0, 1) := by decide +kernel
theorem dJ4_append_15ec4_1 : decode mJ4_append_15ec4.2.1 1 = .ok (.aload_n 1, 1) := by decide +kernel
theorem dJ4_append_15ec4_2 : decode mJ4_append_15ec4.2.1 2 = .ok (.invokespecial 29, 3) := by decide +kernel
-- 2 invokespecial J5_append_cf1ce: link wd_2299 init wd_131 inst wd_2300
theorem dJ4_append_15ec4_5 : decode mJ4_append_15ec4.2.1 5 = .ok (.pop, 1) := by decide +kernel
theorem dJ4_append_15ec4_6 : decode mJ4_append_15ec4.2.1 6 = .ok (.aload_n 0, 1) := by decide +kernel
theorem dJ4_append_15ec4_7 : decode mJ4_append_15ec4.2.1 7 = .ok (.areturn, 1) := by decide +kernel
-- java/lang/AbstractStringBuilder.append(I)Ljava/lang/AbstractStringBuilder;
theorem dJ5_append_c97b9_0 : decode mJ5_append_c97b9.2.1 0 = .ok (.aload_n 0, 1) := by decide +kernel
theorem dJ5_append_c97b9_1 : decode mJ5_append_c97b9.2.1 1 = .ok (.getfield 79, 3) := by decide +kernel
-- 1 getfield count: wd_2284
theorem dJ5_append_c97b9_4 : decode mJ5_append_c97b9.2.1 4 = .ok (.istore_n 2, 1) := by decide +kernel
theorem dJ5_append_c97b9_5 : decode mJ5_append_c97b9.2.1 5 = .ok (.iload_n 2, 1) := by decide +kernel
theorem dJ5_append_c97b9_6 : decode mJ5_append_c97b9.2.1 6 = .ok (.iload_n 1, 1) := by decide +kernel
theorem dJ5_append_c97b9_7 : decode mJ5_append_c97b9.2.1 7 = .ok (.invokestatic 245, 3) := by decide +kernel
-- 7 invokestatic J6_stringSize_0f7a4: link wd_2399 init wd_130 static wd_2400
theorem dJ5_append_c97b9_10 : decode mJ5_append_c97b9.2.1 10 = .ok (.iadd, 1) := by decide +kernel
theorem dJ5_append_c97b9_11 : decode mJ5_append_c97b9.2.1 11 = .ok (.istore_n 3, 1) := by decide +kernel
theorem dJ5_append_c97b9_12 : decode mJ5_append_c97b9.2.1 12 = .ok (.aload_n 0, 1) := by decide +kernel
theorem dJ5_append_c97b9_13 : decode mJ5_append_c97b9.2.1 13 = .ok (.iload_n 3, 1) := by decide +kernel
theorem dJ5_append_c97b9_14 : decode mJ5_append_c97b9.2.1 14 = .ok (.invokevirtual 100, 3) := by decide +kernel
-- 14 invokevirtual J5_ensureCapacityInternal_d00df: link wd_2306 init wd_131 inst wd_2308
theorem dJ5_append_c97b9_17 : decode mJ5_append_c97b9.2.1 17 = .ok (.aload_n 0, 1) := by decide +kernel
theorem dJ5_append_c97b9_18 : decode mJ5_append_c97b9.2.1 18 = .ok (.invokevirtual 83, 3) := by decide +kernel
-- 18 invokevirtual J5_isLatin1_aae02: link wd_2337 init wd_131 inst wd_2338
theorem dJ5_append_c97b9_21 : decode mJ5_append_c97b9.2.1 21 = .ok (.ifCond .eq 16, 3) := by decide +kernel
theorem dJ5_append_c97b9_24 : decode mJ5_append_c97b9.2.1 24 = .ok (.iload_n 1, 1) := by decide +kernel
theorem dJ5_append_c97b9_25 : decode mJ5_append_c97b9.2.1 25 = .ok (.iload_n 3, 1) := by decide +kernel
theorem dJ5_append_c97b9_26 : decode mJ5_append_c97b9.2.1 26 = .ok (.aload_n 0, 1) := by decide +kernel
theorem dJ5_append_c97b9_27 : decode mJ5_append_c97b9.2.1 27 = .ok (.getfield 15, 3) := by decide +kernel
-- 27 getfield value: wd_2281
theorem dJ5_append_c97b9_30 : decode mJ5_append_c97b9.2.1 30 = .ok (.invokestatic 248, 3) := by decide +kernel
-- 30 invokestatic J6_getChars_ba4f3: link wd_2402 init wd_130 static wd_2403
theorem dJ5_append_c97b9_33 : decode mJ5_append_c97b9.2.1 33 = .ok (.pop, 1) := by decide +kernel
theorem dJ5_append_c97b9_34 : decode mJ5_append_c97b9.2.1 34 = .ok (.goto 14, 3) := by decide +kernel
theorem dJ5_append_c97b9_37 : decode mJ5_append_c97b9.2.1 37 = .ok (.iload_n 1, 1) := by decide +kernel
theorem dJ5_append_c97b9_38 : decode mJ5_append_c97b9.2.1 38 = .ok (.iload_n 2, 1) := by decide +kernel
theorem dJ5_append_c97b9_39 : decode mJ5_append_c97b9.2.1 39 = .ok (.iload_n 3, 1) := by decide +kernel
theorem dJ5_append_c97b9_40 : decode mJ5_append_c97b9.2.1 40 = .ok (.aload_n 0, 1) := by decide +kernel
theorem dJ5_append_c97b9_41 : decode mJ5_append_c97b9.2.1 41 = .ok (.getfield 15, 3) := by decide +kernel
-- 41 getfield value: wd_2281
theorem dJ5_append_c97b9_44 : decode mJ5_append_c97b9.2.1 44 = .ok (.invokestatic 251, 3) := by decide +kernel
-- 44 invokestatic J2_getChars_46870: link wd_2409 init wd_127 static wd_2410
theorem dJ5_append_c97b9_47 : decode mJ5_append_c97b9.2.1 47 = .ok (.pop, 1) := by decide +kernel
theorem dJ5_append_c97b9_48 : decode mJ5_append_c97b9.2.1 48 = .ok (.aload_n 0, 1) := by decide +kernel
theorem dJ5_append_c97b9_49 : decode mJ5_append_c97b9.2.1 49 = .ok (.iload_n 3, 1) := by decide +kernel
theorem dJ5_append_c97b9_50 : decode mJ5_append_c97b9.2.1 50 = .ok (.putfield 79, 3) := by decide +kernel
-- 50 putfield count: wd_2284
theorem dJ5_append_c97b9_53 : decode mJ5_append_c97b9.2.1 53 = .ok (.aload_n 0, 1) := by decide +kernel
theorem dJ5_append_c97b9_54 : decode mJ5_append_c97b9.2.1 54 = .ok (.areturn, 1) := by decide +kernel
-- java/lang/AbstractStringBuilder.append(Ljava/lang/String;)Ljava/lang/AbstractStringBuilder;
theorem dJ5_append_cf1ce_0 : decode mJ5_append_cf1ce.2.1 0 = .ok (.aload_n 1, 1) := by decide +kernel
theorem dJ5_append_cf1ce_1 : decode mJ5_append_cf1ce.2.1 1 = .ok (.ifnonnull 8, 3) := by decide +kernel
theorem dJ5_append_cf1ce_4 : decode mJ5_append_cf1ce.2.1 4 = .ok (.aload_n 0, 1) := by decide +kernel
theorem dJ5_append_cf1ce_5 : decode mJ5_append_cf1ce.2.1 5 = .ok (.invokevirtual 204, 3) := by decide +kernel
-- 5 invokevirtual J5_appendNull_278bc: link wd_2302 init wd_131 inst wd_2304
theorem dJ5_append_cf1ce_8 : decode mJ5_append_cf1ce.2.1 8 = .ok (.areturn, 1) := by decide +kernel
theorem dJ5_append_cf1ce_9 : decode mJ5_append_cf1ce.2.1 9 = .ok (.aload_n 1, 1) := by decide +kernel
theorem dJ5_append_cf1ce_10 : decode mJ5_append_cf1ce.2.1 10 = .ok (.invokevirtual 32, 3) := by decide +kernel
-- 10 invokevirtual J0_length_8abf5: link wd_2357 init wd_124 inst wd_722 sel wd_723
theorem dJ5_append_cf1ce_13 : decode mJ5_append_cf1ce.2.1 13 = .ok (.istore_n 2, 1) := by decide +kernel
theorem dJ5_append_cf1ce_14 : decode mJ5_append_cf1ce.2.1 14 = .ok (.aload_n 0, 1) := by decide +kernel
theorem dJ5_append_cf1ce_15 : decode mJ5_append_cf1ce.2.1 15 = .ok (.aload_n 0, 1) := by decide +kernel
theorem dJ5_append_cf1ce_16 : decode mJ5_append_cf1ce.2.1 16 = .ok (.getfield 79, 3) := by decide +kernel
-- 16 getfield count: wd_2284
theorem dJ5_append_cf1ce_19 : decode mJ5_append_cf1ce.2.1 19 = .ok (.iload_n 2, 1) := by decide +kernel
theorem dJ5_append_cf1ce_20 : decode mJ5_append_cf1ce.2.1 20 = .ok (.iadd, 1) := by decide +kernel
theorem dJ5_append_cf1ce_21 : decode mJ5_append_cf1ce.2.1 21 = .ok (.invokevirtual 100, 3) := by decide +kernel
-- 21 invokevirtual J5_ensureCapacityInternal_d00df: link wd_2306 init wd_131 inst wd_2308
theorem dJ5_append_cf1ce_24 : decode mJ5_append_cf1ce.2.1 24 = .ok (.aload_n 0, 1) := by decide +kernel
theorem dJ5_append_cf1ce_25 : decode mJ5_append_cf1ce.2.1 25 = .ok (.aload_n 0, 1) := by decide +kernel
theorem dJ5_append_cf1ce_26 : decode mJ5_append_cf1ce.2.1 26 = .ok (.getfield 79, 3) := by decide +kernel
-- 26 getfield count: wd_2284
theorem dJ5_append_cf1ce_29 : decode mJ5_append_cf1ce.2.1 29 = .ok (.aload_n 1, 1) := by decide +kernel
theorem dJ5_append_cf1ce_30 : decode mJ5_append_cf1ce.2.1 30 = .ok (.invokevirtual 208, 3) := by decide +kernel
-- 30 invokevirtual J5_putStringAt_47b60: link wd_2358 init wd_131 inst wd_2360
theorem dJ5_append_cf1ce_33 : decode mJ5_append_cf1ce.2.1 33 = .ok (.aload_n 0, 1) := by decide +kernel
theorem dJ5_append_cf1ce_34 : decode mJ5_append_cf1ce.2.1 34 = .ok (.dup, 1) := by decide +kernel
theorem dJ5_append_cf1ce_35 : decode mJ5_append_cf1ce.2.1 35 = .ok (.getfield 79, 3) := by decide +kernel
-- 35 getfield count: wd_2284
theorem dJ5_append_cf1ce_38 : decode mJ5_append_cf1ce.2.1 38 = .ok (.iload_n 2, 1) := by decide +kernel
theorem dJ5_append_cf1ce_39 : decode mJ5_append_cf1ce.2.1 39 = .ok (.iadd, 1) := by decide +kernel
theorem dJ5_append_cf1ce_40 : decode mJ5_append_cf1ce.2.1 40 = .ok (.putfield 79, 3) := by decide +kernel
-- 40 putfield count: wd_2284
theorem dJ5_append_cf1ce_43 : decode mJ5_append_cf1ce.2.1 43 = .ok (.aload_n 0, 1) := by decide +kernel
theorem dJ5_append_cf1ce_44 : decode mJ5_append_cf1ce.2.1 44 = .ok (.areturn, 1) := by decide +kernel
-- java/lang/AbstractStringBuilder.ensureCapacityInternal(I)V
theorem dJ5_ensureCapacityInternal_d00df_0 : decode mJ5_ensureCapacityInternal_d00df.2.1 0 = .ok (.aload_n 0, 1) := by decide +kernel
theorem dJ5_ensureCapacityInternal_d00df_1 : decode mJ5_ensureCapacityInternal_d00df.2.1 1 = .ok (.getfield 15, 3) := by decide +kernel
-- 1 getfield value: wd_2281
theorem dJ5_ensureCapacityInternal_d00df_4 : decode mJ5_ensureCapacityInternal_d00df.2.1 4 = .ok (.arraylength, 1) := by decide +kernel
theorem dJ5_ensureCapacityInternal_d00df_5 : decode mJ5_ensureCapacityInternal_d00df.2.1 5 = .ok (.aload_n 0, 1) := by decide +kernel
theorem dJ5_ensureCapacityInternal_d00df_6 : decode mJ5_ensureCapacityInternal_d00df.2.1 6 = .ok (.getfield 22, 3) := by decide +kernel
-- 6 getfield coder: wd_2282
theorem dJ5_ensureCapacityInternal_d00df_9 : decode mJ5_ensureCapacityInternal_d00df.2.1 9 = .ok (.ishr, 1) := by decide +kernel
theorem dJ5_ensureCapacityInternal_d00df_10 : decode mJ5_ensureCapacityInternal_d00df.2.1 10 = .ok (.istore_n 2, 1) := by decide +kernel
theorem dJ5_ensureCapacityInternal_d00df_11 : decode mJ5_ensureCapacityInternal_d00df.2.1 11 = .ok (.iload_n 1, 1) := by decide +kernel
theorem dJ5_ensureCapacityInternal_d00df_12 : decode mJ5_ensureCapacityInternal_d00df.2.1 12 = .ok (.iload_n 2, 1) := by decide +kernel
theorem dJ5_ensureCapacityInternal_d00df_13 : decode mJ5_ensureCapacityInternal_d00df.2.1 13 = .ok (.isub, 1) := by decide +kernel
theorem dJ5_ensureCapacityInternal_d00df_14 : decode mJ5_ensureCapacityInternal_d00df.2.1 14 = .ok (.ifCond .le 24, 3) := by decide +kernel
theorem dJ5_ensureCapacityInternal_d00df_17 : decode mJ5_ensureCapacityInternal_d00df.2.1 17 = .ok (.aload_n 0, 1) := by decide +kernel
theorem dJ5_ensureCapacityInternal_d00df_18 : decode mJ5_ensureCapacityInternal_d00df.2.1 18 = .ok (.aload_n 0, 1) := by decide +kernel
theorem dJ5_ensureCapacityInternal_d00df_19 : decode mJ5_ensureCapacityInternal_d00df.2.1 19 = .ok (.getfield 15, 3) := by decide +kernel
-- 19 getfield value: wd_2281
theorem dJ5_ensureCapacityInternal_d00df_22 : decode mJ5_ensureCapacityInternal_d00df.2.1 22 = .ok (.aload_n 0, 1) := by decide +kernel
theorem dJ5_ensureCapacityInternal_d00df_23 : decode mJ5_ensureCapacityInternal_d00df.2.1 23 = .ok (.iload_n 1, 1) := by decide +kernel
theorem dJ5_ensureCapacityInternal_d00df_24 : decode mJ5_ensureCapacityInternal_d00df.2.1 24 = .ok (.invokevirtual 104, 3) := by decide +kernel
-- 24 invokevirtual J5_newCapacity_0f7a4: link wd_2310 init wd_131 inst wd_2312
theorem dJ5_ensureCapacityInternal_d00df_27 : decode mJ5_ensureCapacityInternal_d00df.2.1 27 = .ok (.aload_n 0, 1) := by decide +kernel
theorem dJ5_ensureCapacityInternal_d00df_28 : decode mJ5_ensureCapacityInternal_d00df.2.1 28 = .ok (.getfield 22, 3) := by decide +kernel
-- 28 getfield coder: wd_2282
theorem dJ5_ensureCapacityInternal_d00df_31 : decode mJ5_ensureCapacityInternal_d00df.2.1 31 = .ok (.ishl, 1) := by decide +kernel
theorem dJ5_ensureCapacityInternal_d00df_32 : decode mJ5_ensureCapacityInternal_d00df.2.1 32 = .ok (.invokestatic 108, 3) := by decide +kernel
-- 32 invokestatic J7_copyOf_9075b: link wd_2323 init wd_134 static wd_2324
theorem dJ5_ensureCapacityInternal_d00df_35 : decode mJ5_ensureCapacityInternal_d00df.2.1 35 = .ok (.putfield 15, 3) := by decide +kernel
-- 35 putfield value: wd_2281
theorem dJ5_ensureCapacityInternal_d00df_38 : decode mJ5_ensureCapacityInternal_d00df.2.1 38 = .ok (.return_, 1) := by decide +kernel
-- java/lang/AbstractStringBuilder.inflateIfNeededFor(Ljava/lang/String;)V
theorem dJ5_inflateIfNeededFor_a7421_0 : decode mJ5_inflateIfNeededFor_a7421.2.1 0 = .ok (.getstatic 18, 3) := by decide +kernel
-- 0 getstatic COMPACT_STRINGS: wd_2273
theorem dJ5_inflateIfNeededFor_a7421_3 : decode mJ5_inflateIfNeededFor_a7421.2.1 3 = .ok (.ifCond .eq 18, 3) := by decide +kernel
theorem dJ5_inflateIfNeededFor_a7421_6 : decode mJ5_inflateIfNeededFor_a7421.2.1 6 = .ok (.aload_n 0, 1) := by decide +kernel
theorem dJ5_inflateIfNeededFor_a7421_7 : decode mJ5_inflateIfNeededFor_a7421.2.1 7 = .ok (.getfield 22, 3) := by decide +kernel
-- 7 getfield coder: wd_2282
theorem dJ5_inflateIfNeededFor_a7421_10 : decode mJ5_inflateIfNeededFor_a7421.2.1 10 = .ok (.aload_n 1, 1) := by decide +kernel
theorem dJ5_inflateIfNeededFor_a7421_11 : decode mJ5_inflateIfNeededFor_a7421.2.1 11 = .ok (.invokevirtual 40, 3) := by decide +kernel
-- 11 invokevirtual J0_coder_7d493: link wd_2366 init wd_124 inst wd_726 sel wd_727
theorem dJ5_inflateIfNeededFor_a7421_14 : decode mJ5_inflateIfNeededFor_a7421.2.1 14 = .ok (.if_icmp .eq 7, 3) := by decide +kernel
theorem dJ5_inflateIfNeededFor_a7421_17 : decode mJ5_inflateIfNeededFor_a7421.2.1 17 = .ok (.aload_n 0, 1) := by decide +kernel
theorem dJ5_inflateIfNeededFor_a7421_18 : decode mJ5_inflateIfNeededFor_a7421.2.1 18 = .ok (.invokevirtual 195, 3) := by decide +kernel
-- 18 invokevirtual J5_inflate_da8c8: link wd_2367 init wd_131 inst wd_2369
theorem dJ5_inflateIfNeededFor_a7421_21 : decode mJ5_inflateIfNeededFor_a7421.2.1 21 = .ok (.return_, 1) := by decide +kernel
-- java/lang/AbstractStringBuilder.putStringAt(ILjava/lang/String;)V
theorem dJ5_putStringAt_47b60_0 : decode mJ5_putStringAt_47b60.2.1 0 = .ok (.aload_n 0, 1) := by decide +kernel
theorem dJ5_putStringAt_47b60_1 : decode mJ5_putStringAt_47b60.2.1 1 = .ok (.aload_n 2, 1) := by decide +kernel
theorem dJ5_putStringAt_47b60_2 : decode mJ5_putStringAt_47b60.2.1 2 = .ok (.invokevirtual 397, 3) := by decide +kernel
-- 2 invokevirtual J5_inflateIfNeededFor_a7421: link wd_2362 init wd_131 inst wd_2364
theorem dJ5_putStringAt_47b60_5 : decode mJ5_putStringAt_47b60.2.1 5 = .ok (.aload_n 2, 1) := by decide +kernel
theorem dJ5_putStringAt_47b60_6 : decode mJ5_putStringAt_47b60.2.1 6 = .ok (.aload_n 0, 1) := by decide +kernel
theorem dJ5_putStringAt_47b60_7 : decode mJ5_putStringAt_47b60.2.1 7 = .ok (.getfield 15, 3) := by decide +kernel
-- 7 getfield value: wd_2281
theorem dJ5_putStringAt_47b60_10 : decode mJ5_putStringAt_47b60.2.1 10 = .ok (.iload_n 1, 1) := by decide +kernel
theorem dJ5_putStringAt_47b60_11 : decode mJ5_putStringAt_47b60.2.1 11 = .ok (.aload_n 0, 1) := by decide +kernel
theorem dJ5_putStringAt_47b60_12 : decode mJ5_putStringAt_47b60.2.1 12 = .ok (.getfield 22, 3) := by decide +kernel
-- 12 getfield coder: wd_2282
theorem dJ5_putStringAt_47b60_15 : decode mJ5_putStringAt_47b60.2.1 15 = .ok (.invokevirtual 399, 3) := by decide +kernel
-- 15 invokevirtual J0_getBytes_840e7: link wd_2386 init wd_124 inst wd_2387 sel wd_2388
theorem dJ5_putStringAt_47b60_18 : decode mJ5_putStringAt_47b60.2.1 18 = .ok (.return_, 1) := by decide +kernel
-- java/lang/String.getBytes([BIB)V
theorem dJ0_getBytes_840e7_0 : decode mJ0_getBytes_840e7.2.1 0 = .ok (.aload_n 0, 1) := by decide +kernel
theorem dJ0_getBytes_840e7_1 : decode mJ0_getBytes_840e7.2.1 1 = .ok (.invokevirtual 335, 3) := by decide +kernel
-- 1 invokevirtual J0_coder_7d493: link wd_725 init wd_124 inst wd_726 sel wd_727
theorem dJ0_getBytes_840e7_4 : decode mJ0_getBytes_840e7.2.1 4 = .ok (.iload_n 3, 1) := by decide +kernel
theorem dJ0_getBytes_840e7_5 : decode mJ0_getBytes_840e7.2.1 5 = .ok (.if_icmp .ne 23, 3) := by decide +kernel
theorem dJ0_getBytes_840e7_8 : decode mJ0_getBytes_840e7.2.1 8 = .ok (.aload_n 0, 1) := by decide +kernel
theorem dJ0_getBytes_840e7_9 : decode mJ0_getBytes_840e7.2.1 9 = .ok (.getfield 9, 3) := by decide +kernel
-- 9 getfield value: wd_2463
theorem dJ0_getBytes_840e7_12 : decode mJ0_getBytes_840e7.2.1 12 = .ok (.iconst 0, 1) := by decide +kernel
theorem dJ0_getBytes_840e7_13 : decode mJ0_getBytes_840e7.2.1 13 = .ok (.aload_n 1, 1) := by decide +kernel
theorem dJ0_getBytes_840e7_14 : decode mJ0_getBytes_840e7.2.1 14 = .ok (.iload_n 2, 1) := by decide +kernel
theorem dJ0_getBytes_840e7_15 : decode mJ0_getBytes_840e7.2.1 15 = .ok (.iload_n 3, 1) := by decide +kernel
theorem dJ0_getBytes_840e7_16 : decode mJ0_getBytes_840e7.2.1 16 = .ok (.ishl, 1) := by decide +kernel
theorem dJ0_getBytes_840e7_17 : decode mJ0_getBytes_840e7.2.1 17 = .ok (.aload_n 0, 1) := by decide +kernel
theorem dJ0_getBytes_840e7_18 : decode mJ0_getBytes_840e7.2.1 18 = .ok (.getfield 9, 3) := by decide +kernel
-- 18 getfield value: wd_2463
theorem dJ0_getBytes_840e7_21 : decode mJ0_getBytes_840e7.2.1 21 = .ok (.arraylength, 1) := by decide +kernel
theorem dJ0_getBytes_840e7_22 : decode mJ0_getBytes_840e7.2.1 22 = .ok (.invokestatic 212, 3) := by decide +kernel
-- 22 invokestatic ('M', 'java/lang/System', 'arraycopy', '(Ljava/lang/Object;ILjava/lang/Object;II)V')
theorem dJ0_getBytes_840e7_25 : decode mJ0_getBytes_840e7.2.1 25 = .ok (.goto 18, 3) := by decide +kernel
theorem dJ0_getBytes_840e7_28 : decode mJ0_getBytes_840e7.2.1 28 = .ok (.aload_n 0, 1) := by decide +kernel
theorem dJ0_getBytes_840e7_29 : decode mJ0_getBytes_840e7.2.1 29 = .ok (.getfield 9, 3) := by decide +kernel
-- 29 getfield value: wd_2463
theorem dJ0_getBytes_840e7_32 : decode mJ0_getBytes_840e7.2.1 32 = .ok (.iconst 0, 1) := by decide +kernel
theorem dJ0_getBytes_840e7_33 : decode mJ0_getBytes_840e7.2.1 33 = .ok (.aload_n 1, 1) := by decide +kernel
theorem dJ0_getBytes_840e7_34 : decode mJ0_getBytes_840e7.2.1 34 = .ok (.iload_n 2, 1) := by decide +kernel
theorem dJ0_getBytes_840e7_35 : decode mJ0_getBytes_840e7.2.1 35 = .ok (.aload_n 0, 1) := by decide +kernel
theorem dJ0_getBytes_840e7_36 : decode mJ0_getBytes_840e7.2.1 36 = .ok (.getfield 9, 3) := by decide +kernel
-- 36 getfield value: wd_2463
theorem dJ0_getBytes_840e7_39 : decode mJ0_getBytes_840e7.2.1 39 = .ok (.arraylength, 1) := by decide +kernel
theorem dJ0_getBytes_840e7_40 : decode mJ0_getBytes_840e7.2.1 40 = .ok (.invokestatic 106, 3) := by decide +kernel
-- 40 invokestatic J1_inflate_0e8fd: link wd_2391 init wd_125 static wd_2372
theorem dJ0_getBytes_840e7_43 : decode mJ0_getBytes_840e7.2.1 43 = .ok (.return_, 1) := by decide +kernel
-- java/lang/StringBuilder.toString()Ljava/lang/String;
theorem dJ4_toString_0e30d_0 : decode mJ4_toString_0e30d.2.1 0 = .ok (.new 18, 3) := by decide +kernel
-- 0 new ('K', 'java/lang/String'): wd_2421
theorem dJ4_toString_0e30d_3 : decode mJ4_toString_0e30d.2.1 3 = .ok (.dup, 1) := by decide +kernel
theorem dJ4_toString_0e30d_4 : decode mJ4_toString_0e30d.2.1 4 = .ok (.aload_n 0, 1) := by decide +kernel
theorem dJ4_toString_0e30d_5 : decode mJ4_toString_0e30d.2.1 5 = .ok (.invokespecial 137, 3) := by decide +kernel
-- 5 invokespecial J0_init_81219: link wd_2423 init wd_124 inst wd_2424
theorem dJ4_toString_0e30d_8 : decode mJ4_toString_0e30d.2.1 8 = .ok (.areturn, 1) := by decide +kernel
-- java/lang/String.<init>(Ljava/lang/AbstractStringBuilder;Ljava/lang/Void;)V
theorem dJ0_init_db425_0 : decode mJ0_init_db425.2.1 0 = .ok (.aload_n 0, 1) := by decide +kernel
theorem dJ0_init_db425_1 : decode mJ0_init_db425.2.1 1 = .ok (.invokespecial 1, 3) := by decide +kernel
-- 1 invokespecial ('M', 'java/lang/Object', '<init>', '()V')
theorem dJ0_init_db425_4 : decode mJ0_init_db425.2.1 4 = .ok (.aload_n 1, 1) := by decide +kernel
theorem dJ0_init_db425_5 : decode mJ0_init_db425.2.1 5 = .ok (.invokevirtual 552, 3) := by decide +kernel
-- 5 invokevirtual J5_getValue_6d5f1: link wd_2430 init wd_131 inst wd_2431
theorem dJ0_init_db425_8 : decode mJ0_init_db425.2.1 8 = .ok (.astore_n 3, 1) := by decide +kernel
theorem dJ0_init_db425_9 : decode mJ0_init_db425.2.1 9 = .ok (.aload_n 1, 1) := by decide +kernel
theorem dJ0_init_db425_10 : decode mJ0_init_db425.2.1 10 = .ok (.invokevirtual 549, 3) := by decide +kernel
-- 10 invokevirtual J5_length_8abf5: link wd_2435 init wd_131 inst wd_2436
theorem dJ0_init_db425_13 : decode mJ0_init_db425.2.1 13 = .ok (.istore 4, 2) := by decide +kernel
theorem dJ0_init_db425_15 : decode mJ0_init_db425.2.1 15 = .ok (.aload_n 1, 1) := by decide +kernel
theorem dJ0_init_db425_16 : decode mJ0_init_db425.2.1 16 = .ok (.invokevirtual 1047, 3) := by decide +kernel
-- 16 invokevirtual J5_isLatin1_aae02: link wd_2443 init wd_131 inst wd_2338
theorem dJ0_init_db425_19 : decode mJ0_init_db425.2.1 19 = .ok (.ifCond .eq 22, 3) := by decide +kernel
theorem dJ0_init_db425_22 : decode mJ0_init_db425.2.1 22 = .ok (.aload_n 0, 1) := by decide +kernel
theorem dJ0_init_db425_23 : decode mJ0_init_db425.2.1 23 = .ok (.iconst 0, 1) := by decide +kernel
theorem dJ0_init_db425_24 : decode mJ0_init_db425.2.1 24 = .ok (.putfield 15, 3) := by decide +kernel
-- 24 putfield coder: wd_2464
theorem dJ0_init_db425_27 : decode mJ0_init_db425.2.1 27 = .ok (.aload_n 0, 1) := by decide +kernel
theorem dJ0_init_db425_28 : decode mJ0_init_db425.2.1 28 = .ok (.aload_n 3, 1) := by decide +kernel
theorem dJ0_init_db425_29 : decode mJ0_init_db425.2.1 29 = .ok (.iconst 0, 1) := by decide +kernel
theorem dJ0_init_db425_30 : decode mJ0_init_db425.2.1 30 = .ok (.iload 4, 2) := by decide +kernel
theorem dJ0_init_db425_32 : decode mJ0_init_db425.2.1 32 = .ok (.invokestatic 54, 3) := by decide +kernel
-- 32 invokestatic J7_copyOfRange_39247: link wd_2444 init wd_134 static wd_2445
theorem dJ0_init_db425_35 : decode mJ0_init_db425.2.1 35 = .ok (.putfield 9, 3) := by decide +kernel
-- 35 putfield value: wd_2463
theorem dJ0_init_db425_38 : decode mJ0_init_db425.2.1 38 = .ok (.goto 59, 3) := by decide +kernel
theorem dJ0_init_db425_41 : decode mJ0_init_db425.2.1 41 = .ok (.getstatic 38, 3) := by decide +kernel
-- 41 getstatic COMPACT_STRINGS: wd_729
theorem dJ0_init_db425_44 : decode mJ0_init_db425.2.1 44 = .ok (.ifCond .eq 35, 3) := by decide +kernel
theorem dJ0_init_db425_47 : decode mJ0_init_db425.2.1 47 = .ok (.aload_n 1, 1) := by decide +kernel
theorem dJ0_init_db425_48 : decode mJ0_init_db425.2.1 48 = .ok (.getfield 1048, 3) := by decide +kernel
-- 48 getfield maybeLatin1: wd_2283
theorem dJ0_init_db425_51 : decode mJ0_init_db425.2.1 51 = .ok (.ifCond .eq 28, 3) := by decide +kernel
theorem dJ0_init_db425_54 : decode mJ0_init_db425.2.1 54 = .ok (.aload_n 0, 1) := by decide +kernel
theorem dJ0_init_db425_55 : decode mJ0_init_db425.2.1 55 = .ok (.aload_n 3, 1) := by decide +kernel
theorem dJ0_init_db425_56 : decode mJ0_init_db425.2.1 56 = .ok (.iconst 0, 1) := by decide +kernel
theorem dJ0_init_db425_57 : decode mJ0_init_db425.2.1 57 = .ok (.iload 4, 2) := by decide +kernel
theorem dJ0_init_db425_59 : decode mJ0_init_db425.2.1 59 = .ok (.invokestatic 1051, 3) := by decide +kernel
-- 59 invokestatic J2_compress_39247: link wd_2453 init wd_127 static wd_2454
theorem dJ0_init_db425_62 : decode mJ0_init_db425.2.1 62 = .ok (.putfield 9, 3) := by decide +kernel
-- 62 putfield value: wd_2463
theorem dJ0_init_db425_65 : decode mJ0_init_db425.2.1 65 = .ok (.aload_n 0, 1) := by decide +kernel
theorem dJ0_init_db425_66 : decode mJ0_init_db425.2.1 66 = .ok (.aload_n 0, 1) := by decide +kernel
theorem dJ0_init_db425_67 : decode mJ0_init_db425.2.1 67 = .ok (.getfield 9, 3) := by decide +kernel
-- 67 getfield value: wd_2463
theorem dJ0_init_db425_70 : decode mJ0_init_db425.2.1 70 = .ok (.iload 4, 2) := by decide +kernel
theorem dJ0_init_db425_72 : decode mJ0_init_db425.2.1 72 = .ok (.invokestatic 47, 3) := by decide +kernel
-- 72 invokestatic J2_coderFromArrayLen_85cad: link wd_2460 init wd_127 static wd_2461
theorem dJ0_init_db425_75 : decode mJ0_init_db425.2.1 75 = .ok (.putfield 15, 3) := by decide +kernel
-- 75 putfield coder: wd_2464
theorem dJ0_init_db425_78 : decode mJ0_init_db425.2.1 78 = .ok (.return_, 1) := by decide +kernel
theorem dJ0_init_db425_79 : decode mJ0_init_db425.2.1 79 = .ok (.aload_n 0, 1) := by decide +kernel
theorem dJ0_init_db425_80 : decode mJ0_init_db425.2.1 80 = .ok (.iconst 1, 1) := by decide +kernel
theorem dJ0_init_db425_81 : decode mJ0_init_db425.2.1 81 = .ok (.putfield 15, 3) := by decide +kernel
-- 81 putfield coder: wd_2464
theorem dJ0_init_db425_84 : decode mJ0_init_db425.2.1 84 = .ok (.aload_n 0, 1) := by decide +kernel
theorem dJ0_init_db425_85 : decode mJ0_init_db425.2.1 85 = .ok (.aload_n 3, 1) := by decide +kernel
theorem dJ0_init_db425_86 : decode mJ0_init_db425.2.1 86 = .ok (.iconst 0, 1) := by decide +kernel
theorem dJ0_init_db425_87 : decode mJ0_init_db425.2.1 87 = .ok (.iload 4, 2) := by decide +kernel
theorem dJ0_init_db425_89 : decode mJ0_init_db425.2.1 89 = .ok (.iconst 1, 1) := by decide +kernel
theorem dJ0_init_db425_90 : decode mJ0_init_db425.2.1 90 = .ok (.ishl, 1) := by decide +kernel
theorem dJ0_init_db425_91 : decode mJ0_init_db425.2.1 91 = .ok (.invokestatic 54, 3) := by decide +kernel
-- 91 invokestatic J7_copyOfRange_39247: link wd_2444 init wd_134 static wd_2445
theorem dJ0_init_db425_94 : decode mJ0_init_db425.2.1 94 = .ok (.putfield 9, 3) := by decide +kernel
-- 94 putfield value: wd_2463
theorem dJ0_init_db425_97 : decode mJ0_init_db425.2.1 97 = .ok (.return_, 1) := by decide +kernel
-- java/lang/String.<init>(Ljava/lang/StringBuilder;)V
theorem dJ0_init_81219_0 : decode mJ0_init_81219.2.1 0 = .ok (.aload_n 0, 1) := by decide +kernel
theorem dJ0_init_81219_1 : decode mJ0_init_81219.2.1 1 = .ok (.aload_n 1, 1) := by decide +kernel
theorem dJ0_init_81219_2 : decode mJ0_init_81219.2.1 2 = .ok (.aconst_null, 1) := by decide +kernel
theorem dJ0_init_81219_3 : decode mJ0_init_81219.2.1 3 = .ok (.invokespecial 489, 3) := by decide +kernel
-- 3 invokespecial J0_init_db425: link wd_2426 init wd_124 inst wd_2427
theorem dJ0_init_81219_6 : decode mJ0_init_81219.2.1 6 = .ok (.return_, 1) := by decide +kernel
-- java/util/Arrays.copyOfRange([BII)[B
theorem dJ7_copyOfRange_39247_0 : decode mJ7_copyOfRange_39247.2.1 0 = .ok (.iload_n 1, 1) := by decide +kernel
theorem dJ7_copyOfRange_39247_1 : decode mJ7_copyOfRange_39247.2.1 1 = .ok (.ifCond .ne 9, 3) := by decide +kernel
theorem dJ7_copyOfRange_39247_4 : decode mJ7_copyOfRange_39247.2.1 4 = .ok (.iload_n 2, 1) := by decide +kernel
theorem dJ7_copyOfRange_39247_5 : decode mJ7_copyOfRange_39247.2.1 5 = .ok (.aload_n 0, 1) := by decide +kernel
theorem dJ7_copyOfRange_39247_6 : decode mJ7_copyOfRange_39247.2.1 6 = .ok (.arraylength, 1) := by decide +kernel
theorem dJ7_copyOfRange_39247_7 : decode mJ7_copyOfRange_39247.2.1 7 = .ok (.if_icmp .eq 10, 3) := by decide +kernel
theorem dJ7_copyOfRange_39247_10 : decode mJ7_copyOfRange_39247.2.1 10 = .ok (.aload_n 0, 1) := by decide +kernel
theorem dJ7_copyOfRange_39247_11 : decode mJ7_copyOfRange_39247.2.1 11 = .ok (.iload_n 1, 1) := by decide +kernel
theorem dJ7_copyOfRange_39247_12 : decode mJ7_copyOfRange_39247.2.1 12 = .ok (.iload_n 2, 1) := by decide +kernel
theorem dJ7_copyOfRange_39247_13 : decode mJ7_copyOfRange_39247.2.1 13 = .ok (.invokestatic 339, 3) := by decide +kernel
-- 13 invokestatic J7_copyOfRangeByte_39247: link wd_2447 init wd_134 static wd_2448
theorem dJ7_copyOfRange_39247_16 : decode mJ7_copyOfRange_39247.2.1 16 = .ok (.areturn, 1) := by decide +kernel
theorem dJ7_copyOfRange_39247_17 : decode mJ7_copyOfRange_39247.2.1 17 = .ok (.aload_n 0, 1) := by decide +kernel
theorem dJ7_copyOfRange_39247_18 : decode mJ7_copyOfRange_39247.2.1 18 = .ok (.invokevirtual 310, 3) := by decide +kernel
-- 18 invokevirtual ('M', '[B', 'clone', '()Ljava/lang/Object;')
theorem dJ7_copyOfRange_39247_21 : decode mJ7_copyOfRange_39247.2.1 21 = .ok (.checkcast 311, 3) := by decide +kernel
theorem dJ7_copyOfRange_39247_24 : decode mJ7_copyOfRange_39247.2.1 24 = .ok (.areturn, 1) := by decide +kernel
-- java/util/Arrays.copyOfRangeByte([BII)[B
theorem dJ7_copyOfRangeByte_39247_0 : decode mJ7_copyOfRangeByte_39247.2.1 0 = .ok (.iload_n 1, 1) := by decide +kernel
theorem dJ7_copyOfRangeByte_39247_1 : decode mJ7_copyOfRangeByte_39247.2.1 1 = .ok (.iload_n 2, 1) := by decide +kernel
theorem dJ7_copyOfRangeByte_39247_2 : decode mJ7_copyOfRangeByte_39247.2.1 2 = .ok (.invokestatic 343, 3) := by decide +kernel
-- 2 invokestatic J7_checkLength_df160: link wd_2450 init wd_134 static wd_2451
theorem dJ7_copyOfRangeByte_39247_5 : decode mJ7_copyOfRangeByte_39247.2.1 5 = .ok (.iload_n 2, 1) := by decide +kernel
theorem dJ7_copyOfRangeByte_39247_6 : decode mJ7_copyOfRangeByte_39247.2.1 6 = .ok (.iload_n 1, 1) := by decide +kernel
theorem dJ7_copyOfRangeByte_39247_7 : decode mJ7_copyOfRangeByte_39247.2.1 7 = .ok (.isub, 1) := by decide +kernel
theorem dJ7_copyOfRangeByte_39247_8 : decode mJ7_copyOfRangeByte_39247.2.1 8 = .ok (.istore_n 3, 1) := by decide +kernel
theorem dJ7_copyOfRangeByte_39247_9 : decode mJ7_copyOfRangeByte_39247.2.1 9 = .ok (.iload_n 3, 1) := by decide +kernel
theorem dJ7_copyOfRangeByte_39247_10 : decode mJ7_copyOfRangeByte_39247.2.1 10 = .ok (.newarray .byte, 2) := by decide +kernel
theorem dJ7_copyOfRangeByte_39247_12 : decode mJ7_copyOfRangeByte_39247.2.1 12 = .ok (.astore 4, 2) := by decide +kernel
theorem dJ7_copyOfRangeByte_39247_14 : decode mJ7_copyOfRangeByte_39247.2.1 14 = .ok (.aload_n 0, 1) := by decide +kernel
theorem dJ7_copyOfRangeByte_39247_15 : decode mJ7_copyOfRangeByte_39247.2.1 15 = .ok (.iload_n 1, 1) := by decide +kernel
theorem dJ7_copyOfRangeByte_39247_16 : decode mJ7_copyOfRangeByte_39247.2.1 16 = .ok (.aload 4, 2) := by decide +kernel
theorem dJ7_copyOfRangeByte_39247_18 : decode mJ7_copyOfRangeByte_39247.2.1 18 = .ok (.iconst 0, 1) := by decide +kernel
theorem dJ7_copyOfRangeByte_39247_19 : decode mJ7_copyOfRangeByte_39247.2.1 19 = .ok (.aload_n 0, 1) := by decide +kernel
theorem dJ7_copyOfRangeByte_39247_20 : decode mJ7_copyOfRangeByte_39247.2.1 20 = .ok (.arraylength, 1) := by decide +kernel
theorem dJ7_copyOfRangeByte_39247_21 : decode mJ7_copyOfRangeByte_39247.2.1 21 = .ok (.iload_n 1, 1) := by decide +kernel
theorem dJ7_copyOfRangeByte_39247_22 : decode mJ7_copyOfRangeByte_39247.2.1 22 = .ok (.isub, 1) := by decide +kernel
theorem dJ7_copyOfRangeByte_39247_23 : decode mJ7_copyOfRangeByte_39247.2.1 23 = .ok (.iload_n 3, 1) := by decide +kernel
theorem dJ7_copyOfRangeByte_39247_24 : decode mJ7_copyOfRangeByte_39247.2.1 24 = .ok (.invokestatic 304, 3) := by decide +kernel
-- 24 invokestatic J9_min_7cf53: link wd_2333 init wd_128 static wd_782
theorem dJ7_copyOfRangeByte_39247_27 : decode mJ7_copyOfRangeByte_39247.2.1 27 = .ok (.invokestatic 150, 3) := by decide +kernel
-- 27 invokestatic ('M', 'java/lang/System', 'arraycopy', '(Ljava/lang/Object;ILjava/lang/Object;II)V')
theorem dJ7_copyOfRangeByte_39247_30 : decode mJ7_copyOfRangeByte_39247.2.1 30 = .ok (.aload 4, 2) := by decide +kernel
theorem dJ7_copyOfRangeByte_39247_32 : decode mJ7_copyOfRangeByte_39247.2.1 32 = .ok (.areturn, 1) := by decide +kernel
-- java/lang/Integer.stringSize(I)I
theorem dJ6_stringSize_0f7a4_0 : decode mJ6_stringSize_0f7a4.2.1 0 = .ok (.iconst 1, 1) := by decide +kernel
theorem dJ6_stringSize_0f7a4_1 : decode mJ6_stringSize_0f7a4.2.1 1 = .ok (.istore_n 1, 1) := by decide +kernel
theorem dJ6_stringSize_0f7a4_2 : decode mJ6_stringSize_0f7a4.2.1 2 = .ok (.iload_n 0, 1) := by decide +kernel
theorem dJ6_stringSize_0f7a4_3 : decode mJ6_stringSize_0f7a4.2.1 3 = .ok (.ifCond .lt 8, 3) := by decide +kernel
theorem dJ6_stringSize_0f7a4_6 : decode mJ6_stringSize_0f7a4.2.1 6 = .ok (.iconst 0, 1) := by decide +kernel
theorem dJ6_stringSize_0f7a4_7 : decode mJ6_stringSize_0f7a4.2.1 7 = .ok (.istore_n 1, 1) := by decide +kernel
theorem dJ6_stringSize_0f7a4_8 : decode mJ6_stringSize_0f7a4.2.1 8 = .ok (.iload_n 0, 1) := by decide +kernel
theorem dJ6_stringSize_0f7a4_9 : decode mJ6_stringSize_0f7a4.2.1 9 = .ok (.ineg, 1) := by decide +kernel
theorem dJ6_stringSize_0f7a4_10 : decode mJ6_stringSize_0f7a4.2.1 10 = .ok (.istore_n 0, 1) := by decide +kernel
theorem dJ6_stringSize_0f7a4_11 : decode mJ6_stringSize_0f7a4.2.1 11 = .ok (.bipush (-10), 2) := by decide +kernel
theorem dJ6_stringSize_0f7a4_13 : decode mJ6_stringSize_0f7a4.2.1 13 = .ok (.istore_n 2, 1) := by decide +kernel
theorem dJ6_stringSize_0f7a4_14 : decode mJ6_stringSize_0f7a4.2.1 14 = .ok (.iconst 1, 1) := by decide +kernel
theorem dJ6_stringSize_0f7a4_15 : decode mJ6_stringSize_0f7a4.2.1 15 = .ok (.istore_n 3, 1) := by decide +kernel
theorem dJ6_stringSize_0f7a4_16 : decode mJ6_stringSize_0f7a4.2.1 16 = .ok (.iload_n 3, 1) := by decide +kernel
theorem dJ6_stringSize_0f7a4_17 : decode mJ6_stringSize_0f7a4.2.1 17 = .ok (.bipush 10, 2) := by decide +kernel
theorem dJ6_stringSize_0f7a4_19 : decode mJ6_stringSize_0f7a4.2.1 19 = .ok (.if_icmp .ge 23, 3) := by decide +kernel
theorem dJ6_stringSize_0f7a4_22 : decode mJ6_stringSize_0f7a4.2.1 22 = .ok (.iload_n 0, 1) := by decide +kernel
theorem dJ6_stringSize_0f7a4_23 : decode mJ6_stringSize_0f7a4.2.1 23 = .ok (.iload_n 2, 1) := by decide +kernel
theorem dJ6_stringSize_0f7a4_24 : decode mJ6_stringSize_0f7a4.2.1 24 = .ok (.if_icmp .le 7, 3) := by decide +kernel
theorem dJ6_stringSize_0f7a4_27 : decode mJ6_stringSize_0f7a4.2.1 27 = .ok (.iload_n 3, 1) := by decide +kernel
theorem dJ6_stringSize_0f7a4_28 : decode mJ6_stringSize_0f7a4.2.1 28 = .ok (.iload_n 1, 1) := by decide +kernel
theorem dJ6_stringSize_0f7a4_29 : decode mJ6_stringSize_0f7a4.2.1 29 = .ok (.iadd, 1) := by decide +kernel
theorem dJ6_stringSize_0f7a4_30 : decode mJ6_stringSize_0f7a4.2.1 30 = .ok (.ireturn, 1) := by decide +kernel
theorem dJ6_stringSize_0f7a4_31 : decode mJ6_stringSize_0f7a4.2.1 31 = .ok (.bipush 10, 2) := by decide +kernel
theorem dJ6_stringSize_0f7a4_33 : decode mJ6_stringSize_0f7a4.2.1 33 = .ok (.iload_n 2, 1) := by decide +kernel
theorem dJ6_stringSize_0f7a4_34 : decode mJ6_stringSize_0f7a4.2.1 34 = .ok (.imul, 1) := by decide +kernel
theorem dJ6_stringSize_0f7a4_35 : decode mJ6_stringSize_0f7a4.2.1 35 = .ok (.istore_n 2, 1) := by decide +kernel
theorem dJ6_stringSize_0f7a4_36 : decode mJ6_stringSize_0f7a4.2.1 36 = .ok (.iinc 3 1, 3) := by decide +kernel
theorem dJ6_stringSize_0f7a4_39 : decode mJ6_stringSize_0f7a4.2.1 39 = .ok (.goto (-23), 3) := by decide +kernel
theorem dJ6_stringSize_0f7a4_42 : decode mJ6_stringSize_0f7a4.2.1 42 = .ok (.bipush 10, 2) := by decide +kernel
theorem dJ6_stringSize_0f7a4_44 : decode mJ6_stringSize_0f7a4.2.1 44 = .ok (.iload_n 1, 1) := by decide +kernel
theorem dJ6_stringSize_0f7a4_45 : decode mJ6_stringSize_0f7a4.2.1 45 = .ok (.iadd, 1) := by decide +kernel
theorem dJ6_stringSize_0f7a4_46 : decode mJ6_stringSize_0f7a4.2.1 46 = .ok (.ireturn, 1) := by decide +kernel
-- java/lang/Integer.getChars(II[B)I
theorem dJ6_getChars_ba4f3_0 : decode mJ6_getChars_ba4f3.2.1 0 = .ok (.iload_n 1, 1) := by decide +kernel
theorem dJ6_getChars_ba4f3_1 : decode mJ6_getChars_ba4f3.2.1 1 = .ok (.istore 5, 2) := by decide +kernel
theorem dJ6_getChars_ba4f3_3 : decode mJ6_getChars_ba4f3.2.1 3 = .ok (.iload_n 0, 1) := by decide +kernel
theorem dJ6_getChars_ba4f3_4 : decode mJ6_getChars_ba4f3.2.1 4 = .ok (.ifCond .ge 7, 3) := by decide +kernel
theorem dJ6_getChars_ba4f3_7 : decode mJ6_getChars_ba4f3.2.1 7 = .ok (.iconst 1, 1) := by decide +kernel
theorem dJ6_getChars_ba4f3_8 : decode mJ6_getChars_ba4f3.2.1 8 = .ok (.goto 4, 3) := by decide +kernel
theorem dJ6_getChars_ba4f3_11 : decode mJ6_getChars_ba4f3.2.1 11 = .ok (.iconst 0, 1) := by decide +kernel
theorem dJ6_getChars_ba4f3_12 : decode mJ6_getChars_ba4f3.2.1 12 = .ok (.istore 6, 2) := by decide +kernel
theorem dJ6_getChars_ba4f3_14 : decode mJ6_getChars_ba4f3.2.1 14 = .ok (.iload 6, 2) := by decide +kernel
theorem dJ6_getChars_ba4f3_16 : decode mJ6_getChars_ba4f3.2.1 16 = .ok (.ifCond .ne 6, 3) := by decide +kernel
theorem dJ6_getChars_ba4f3_19 : decode mJ6_getChars_ba4f3.2.1 19 = .ok (.iload_n 0, 1) := by decide +kernel
theorem dJ6_getChars_ba4f3_20 : decode mJ6_getChars_ba4f3.2.1 20 = .ok (.ineg, 1) := by decide +kernel
theorem dJ6_getChars_ba4f3_21 : decode mJ6_getChars_ba4f3.2.1 21 = .ok (.istore_n 0, 1) := by decide +kernel
theorem dJ6_getChars_ba4f3_22 : decode mJ6_getChars_ba4f3.2.1 22 = .ok (.iload_n 0, 1) := by decide +kernel
theorem dJ6_getChars_ba4f3_23 : decode mJ6_getChars_ba4f3.2.1 23 = .ok (.bipush (-100), 2) := by decide +kernel
theorem dJ6_getChars_ba4f3_25 : decode mJ6_getChars_ba4f3.2.1 25 = .ok (.if_icmp .gt 47, 3) := by decide +kernel
theorem dJ6_getChars_ba4f3_28 : decode mJ6_getChars_ba4f3.2.1 28 = .ok (.iload_n 0, 1) := by decide +kernel
theorem dJ6_getChars_ba4f3_29 : decode mJ6_getChars_ba4f3.2.1 29 = .ok (.bipush 100, 2) := by decide +kernel
theorem dJ6_getChars_ba4f3_31 : decode mJ6_getChars_ba4f3.2.1 31 = .ok (.idiv, 1) := by decide +kernel
theorem dJ6_getChars_ba4f3_32 : decode mJ6_getChars_ba4f3.2.1 32 = .ok (.istore_n 3, 1) := by decide +kernel
theorem dJ6_getChars_ba4f3_33 : decode mJ6_getChars_ba4f3.2.1 33 = .ok (.iload_n 3, 1) := by decide +kernel
theorem dJ6_getChars_ba4f3_34 : decode mJ6_getChars_ba4f3.2.1 34 = .ok (.bipush 100, 2) := by decide +kernel
theorem dJ6_getChars_ba4f3_36 : decode mJ6_getChars_ba4f3.2.1 36 = .ok (.imul, 1) := by decide +kernel
theorem dJ6_getChars_ba4f3_37 : decode mJ6_getChars_ba4f3.2.1 37 = .ok (.iload_n 0, 1) := by decide +kernel
theorem dJ6_getChars_ba4f3_38 : decode mJ6_getChars_ba4f3.2.1 38 = .ok (.isub, 1) := by decide +kernel
theorem dJ6_getChars_ba4f3_39 : decode mJ6_getChars_ba4f3.2.1 39 = .ok (.istore 4, 2) := by decide +kernel
theorem dJ6_getChars_ba4f3_41 : decode mJ6_getChars_ba4f3.2.1 41 = .ok (.iload_n 3, 1) := by decide +kernel
theorem dJ6_getChars_ba4f3_42 : decode mJ6_getChars_ba4f3.2.1 42 = .ok (.istore_n 0, 1) := by decide +kernel
theorem dJ6_getChars_ba4f3_43 : decode mJ6_getChars_ba4f3.2.1 43 = .ok (.aload_n 2, 1) := by decide +kernel
theorem dJ6_getChars_ba4f3_44 : decode mJ6_getChars_ba4f3.2.1 44 = .ok (.iinc 5 (-1), 3) := by decide +kernel
theorem dJ6_getChars_ba4f3_47 : decode mJ6_getChars_ba4f3.2.1 47 = .ok (.iload 5, 2) := by decide +kernel
theorem dJ6_getChars_ba4f3_49 : decode mJ6_getChars_ba4f3.2.1 49 = .ok (.getstatic 83, 3) := by decide +kernel
-- 49 getstatic DigitOnes: wd_2405
theorem dJ6_getChars_ba4f3_52 : decode mJ6_getChars_ba4f3.2.1 52 = .ok (.iload 4, 2) := by decide +kernel
theorem dJ6_getChars_ba4f3_54 : decode mJ6_getChars_ba4f3.2.1 54 = .ok (.baload, 1) := by decide +kernel
theorem dJ6_getChars_ba4f3_55 : decode mJ6_getChars_ba4f3.2.1 55 = .ok (.bastore, 1) := by decide +kernel
theorem dJ6_getChars_ba4f3_56 : decode mJ6_getChars_ba4f3.2.1 56 = .ok (.aload_n 2, 1) := by decide +kernel
theorem dJ6_getChars_ba4f3_57 : decode mJ6_getChars_ba4f3.2.1 57 = .ok (.iinc 5 (-1), 3) := by decide +kernel
theorem dJ6_getChars_ba4f3_60 : decode mJ6_getChars_ba4f3.2.1 60 = .ok (.iload 5, 2) := by decide +kernel
theorem dJ6_getChars_ba4f3_62 : decode mJ6_getChars_ba4f3.2.1 62 = .ok (.getstatic 87, 3) := by decide +kernel
-- 62 getstatic DigitTens: wd_2407
theorem dJ6_getChars_ba4f3_65 : decode mJ6_getChars_ba4f3.2.1 65 = .ok (.iload 4, 2) := by decide +kernel
theorem dJ6_getChars_ba4f3_67 : decode mJ6_getChars_ba4f3.2.1 67 = .ok (.baload, 1) := by decide +kernel
theorem dJ6_getChars_ba4f3_68 : decode mJ6_getChars_ba4f3.2.1 68 = .ok (.bastore, 1) := by decide +kernel
theorem dJ6_getChars_ba4f3_69 : decode mJ6_getChars_ba4f3.2.1 69 = .ok (.goto (-47), 3) := by decide +kernel
theorem dJ6_getChars_ba4f3_72 : decode mJ6_getChars_ba4f3.2.1 72 = .ok (.aload_n 2, 1) := by decide +kernel
theorem dJ6_getChars_ba4f3_73 : decode mJ6_getChars_ba4f3.2.1 73 = .ok (.iinc 5 (-1), 3) := by decide +kernel
theorem dJ6_getChars_ba4f3_76 : decode mJ6_getChars_ba4f3.2.1 76 = .ok (.iload 5, 2) := by decide +kernel
theorem dJ6_getChars_ba4f3_78 : decode mJ6_getChars_ba4f3.2.1 78 = .ok (.getstatic 83, 3) := by decide +kernel
-- 78 getstatic DigitOnes: wd_2405
theorem dJ6_getChars_ba4f3_81 : decode mJ6_getChars_ba4f3.2.1 81 = .ok (.iload_n 0, 1) := by decide +kernel
theorem dJ6_getChars_ba4f3_82 : decode mJ6_getChars_ba4f3.2.1 82 = .ok (.ineg, 1) := by decide +kernel
theorem dJ6_getChars_ba4f3_83 : decode mJ6_getChars_ba4f3.2.1 83 = .ok (.baload, 1) := by decide +kernel
theorem dJ6_getChars_ba4f3_84 : decode mJ6_getChars_ba4f3.2.1 84 = .ok (.bastore, 1) := by decide +kernel
theorem dJ6_getChars_ba4f3_85 : decode mJ6_getChars_ba4f3.2.1 85 = .ok (.iload_n 0, 1) := by decide +kernel
theorem dJ6_getChars_ba4f3_86 : decode mJ6_getChars_ba4f3.2.1 86 = .ok (.bipush (-9), 2) := by decide +kernel
theorem dJ6_getChars_ba4f3_88 : decode mJ6_getChars_ba4f3.2.1 88 = .ok (.if_icmp .ge 16, 3) := by decide +kernel
theorem dJ6_getChars_ba4f3_91 : decode mJ6_getChars_ba4f3.2.1 91 = .ok (.aload_n 2, 1) := by decide +kernel
theorem dJ6_getChars_ba4f3_92 : decode mJ6_getChars_ba4f3.2.1 92 = .ok (.iinc 5 (-1), 3) := by decide +kernel
theorem dJ6_getChars_ba4f3_95 : decode mJ6_getChars_ba4f3.2.1 95 = .ok (.iload 5, 2) := by decide +kernel
theorem dJ6_getChars_ba4f3_97 : decode mJ6_getChars_ba4f3.2.1 97 = .ok (.getstatic 87, 3) := by decide +kernel
-- 97 getstatic DigitTens: wd_2407
theorem dJ6_getChars_ba4f3_100 : decode mJ6_getChars_ba4f3.2.1 100 = .ok (.iload_n 0, 1) := by decide +kernel
theorem dJ6_getChars_ba4f3_101 : decode mJ6_getChars_ba4f3.2.1 101 = .ok (.ineg, 1) := by decide +kernel
theorem dJ6_getChars_ba4f3_102 : decode mJ6_getChars_ba4f3.2.1 102 = .ok (.baload, 1) := by decide +kernel
theorem dJ6_getChars_ba4f3_103 : decode mJ6_getChars_ba4f3.2.1 103 = .ok (.bastore, 1) := by decide +kernel
theorem dJ6_getChars_ba4f3_104 : decode mJ6_getChars_ba4f3.2.1 104 = .ok (.iload 6, 2) := by decide +kernel
theorem dJ6_getChars_ba4f3_106 : decode mJ6_getChars_ba4f3.2.1 106 = .ok (.ifCond .eq 12, 3) := by decide +kernel
theorem dJ6_getChars_ba4f3_109 : decode mJ6_getChars_ba4f3.2.1 109 = .ok (.aload_n 2, 1) := by decide +kernel
theorem dJ6_getChars_ba4f3_110 : decode mJ6_getChars_ba4f3.2.1 110 = .ok (.iinc 5 (-1), 3) := by decide +kernel
theorem dJ6_getChars_ba4f3_113 : decode mJ6_getChars_ba4f3.2.1 113 = .ok (.iload 5, 2) := by decide +kernel
theorem dJ6_getChars_ba4f3_115 : decode mJ6_getChars_ba4f3.2.1 115 = .ok (.bipush 45, 2) := by decide +kernel
theorem dJ6_getChars_ba4f3_117 : decode mJ6_getChars_ba4f3.2.1 117 = .ok (.bastore, 1) := by decide +kernel
theorem dJ6_getChars_ba4f3_118 : decode mJ6_getChars_ba4f3.2.1 118 = .ok (.iload 5, 2) := by decide +kernel
theorem dJ6_getChars_ba4f3_120 : decode mJ6_getChars_ba4f3.2.1 120 = .ok (.ireturn, 1) := by decide +kernel
-- java/lang/AbstractStringBuilder.getValue()[B
theorem dJ5_getValue_6d5f1_0 : decode mJ5_getValue_6d5f1.2.1 0 = .ok (.aload_n 0, 1) := by decide +kernel
theorem dJ5_getValue_6d5f1_1 : decode mJ5_getValue_6d5f1.2.1 1 = .ok (.getfield 15, 3) := by decide +kernel
-- 1 getfield value: wd_2281
theorem dJ5_getValue_6d5f1_4 : decode mJ5_getValue_6d5f1.2.1 4 = .ok (.areturn, 1) := by decide +kernel
-- java/lang/AbstractStringBuilder.length()I
theorem dJ5_length_8abf5_0 : decode mJ5_length_8abf5.2.1 0 = .ok (.aload_n 0, 1) := by decide +kernel
theorem dJ5_length_8abf5_1 : decode mJ5_length_8abf5.2.1 1 = .ok (.getfield 79, 3) := by decide +kernel
-- 1 getfield count: wd_2284
theorem dJ5_length_8abf5_4 : decode mJ5_length_8abf5.2.1 4 = .ok (.ireturn, 1) := by decide +kernel
-- java/lang/AbstractStringBuilder.isLatin1()Z
theorem dJ5_isLatin1_aae02_0 : decode mJ5_isLatin1_aae02.2.1 0 = .ok (.getstatic 18, 3) := by decide +kernel
-- 0 getstatic COMPACT_STRINGS: wd_2273
theorem dJ5_isLatin1_aae02_3 : decode mJ5_isLatin1_aae02.2.1 3 = .ok (.ifCond .eq 14, 3) := by decide +kernel
theorem dJ5_isLatin1_aae02_6 : decode mJ5_isLatin1_aae02.2.1 6 = .ok (.aload_n 0, 1) := by decide +kernel
theorem dJ5_isLatin1_aae02_7 : decode mJ5_isLatin1_aae02.2.1 7 = .ok (.getfield 22, 3) := by decide +kernel
-- 7 getfield coder: wd_2282
theorem dJ5_isLatin1_aae02_10 : decode mJ5_isLatin1_aae02.2.1 10 = .ok (.ifCond .ne 7, 3) := by decide +kernel
theorem dJ5_isLatin1_aae02_13 : decode mJ5_isLatin1_aae02.2.1 13 = .ok (.iconst 1, 1) := by decide +kernel
theorem dJ5_isLatin1_aae02_14 : decode mJ5_isLatin1_aae02.2.1 14 = .ok (.goto 4, 3) := by decide +kernel
theorem dJ5_isLatin1_aae02_17 : decode mJ5_isLatin1_aae02.2.1 17 = .ok (.iconst 0, 1) := by decide +kernel
theorem dJ5_isLatin1_aae02_18 : decode mJ5_isLatin1_aae02.2.1 18 = .ok (.ireturn, 1) := by decide +kernel
-- java/lang/StringBuilder.length()I
theorem dJ4_length_8abf5_0 : decode mJ4_length_8abf5.2.1 0 = .ok (.aload_n 0, 1) := by decide +kernel
theorem dJ4_length_8abf5_1 : decode mJ4_length_8abf5.2.1 1 = .ok (.invokespecial 343, 3) := by decide +kernel
-- 1 invokespecial J5_length_8abf5: link wd_2441 init wd_131 inst wd_2436
theorem dJ4_length_8abf5_4 : decode mJ4_length_8abf5.2.1 4 = .ok (.ireturn, 1) := by decide +kernel
-- java/util/Arrays.checkLength(II)V
theorem dJ7_checkLength_df160_0 : decode mJ7_checkLength_df160.2.1 0 = .ok (.iload_n 1, 1) := by decide +kernel
theorem dJ7_checkLength_df160_1 : decode mJ7_checkLength_df160.2.1 1 = .ok (.iload_n 0, 1) := by decide +kernel
theorem dJ7_checkLength_df160_2 : decode mJ7_checkLength_df160.2.1 2 = .ok (.if_icmp .ge 35, 3) := by decide +kernel
theorem dJ7_checkLength_df160_5 : decode mJ7_checkLength_df160.2.1 5 = .ok (.new 43, 3) := by decide +kernel
theorem dJ7_checkLength_df160_8 : decode mJ7_checkLength_df160.2.1 8 = .ok (.dup, 1) := by decide +kernel
theorem dJ7_checkLength_df160_9 : decode mJ7_checkLength_df160.2.1 9 = .ok (.new 45, 3) := by decide +kernel
theorem dJ7_checkLength_df160_12 : decode mJ7_checkLength_df160.2.1 12 = .ok (.dup, 1) := by decide +kernel
theorem dJ7_checkLength_df160_13 : decode mJ7_checkLength_df160.2.1 13 = .ok (.invokespecial 47, 3) := by decide +kernel
theorem dJ7_checkLength_df160_16 : decode mJ7_checkLength_df160.2.1 16 = .ok (.iload_n 0, 1) := by decide +kernel
theorem dJ7_checkLength_df160_17 : decode mJ7_checkLength_df160.2.1 17 = .ok (.invokevirtual 54, 3) := by decide +kernel
theorem dJ7_checkLength_df160_20 : decode mJ7_checkLength_df160.2.1 20 = .ok (.ldc_w 337, 3) := by decide +kernel
theorem dJ7_checkLength_df160_23 : decode mJ7_checkLength_df160.2.1 23 = .ok (.invokevirtual 50, 3) := by decide +kernel
theorem dJ7_checkLength_df160_26 : decode mJ7_checkLength_df160.2.1 26 = .ok (.iload_n 1, 1) := by decide +kernel
theorem dJ7_checkLength_df160_27 : decode mJ7_checkLength_df160.2.1 27 = .ok (.invokevirtual 54, 3) := by decide +kernel
theorem dJ7_checkLength_df160_30 : decode mJ7_checkLength_df160.2.1 30 = .ok (.invokevirtual 61, 3) := by decide +kernel
theorem dJ7_checkLength_df160_33 : decode mJ7_checkLength_df160.2.1 33 = .ok (.invokespecial 65, 3) := by decide +kernel
theorem dJ7_checkLength_df160_36 : decode mJ7_checkLength_df160.2.1 36 = .ok (.athrow, 1) := by decide +kernel
theorem dJ7_checkLength_df160_37 : decode mJ7_checkLength_df160.2.1 37 = .ok (.return_, 1) := by decide +kernel
-- java/lang/Math.min(II)I
theorem dJ9_min_7cf53_0 : decode mJ9_min_7cf53.2.1 0 = .ok (.iload_n 0, 1) := by decide +kernel
theorem dJ9_min_7cf53_1 : decode mJ9_min_7cf53.2.1 1 = .ok (.iload_n 1, 1) := by decide +kernel
theorem dJ9_min_7cf53_2 : decode mJ9_min_7cf53.2.1 2 = .ok (.if_icmp .gt 7, 3) := by decide +kernel
theorem dJ9_min_7cf53_5 : decode mJ9_min_7cf53.2.1 5 = .ok (.iload_n 0, 1) := by decide +kernel
theorem dJ9_min_7cf53_6 : decode mJ9_min_7cf53.2.1 6 = .ok (.goto 4, 3) := by decide +kernel
theorem dJ9_min_7cf53_9 : decode mJ9_min_7cf53.2.1 9 = .ok (.iload_n 1, 1) := by decide +kernel
theorem dJ9_min_7cf53_10 : decode mJ9_min_7cf53.2.1 10 = .ok (.ireturn, 1) := by decide +kernel
-- MourningHouseModel.writesRule(II)V
theorem dX12_writesRule_0 : decode mX12_writesRule.2.1 0 = .ok (.aload_n 0, 1) := by decide +kernel
theorem dX12_writesRule_1 : decode mX12_writesRule.2.1 1 = .ok (.iconst 0, 1) := by decide +kernel
theorem dX12_writesRule_2 : decode mX12_writesRule.2.1 2 = .ok (.putfield 634, 3) := by decide +kernel
-- 2 putfield outMany: wd_1647
theorem dX12_writesRule_5 : decode mX12_writesRule.2.1 5 = .ok (.aload_n 0, 1) := by decide +kernel
theorem dX12_writesRule_6 : decode mX12_writesRule.2.1 6 = .ok (.ldc_w 423, 3) := by decide +kernel
-- 6 ldc String 76
theorem dX12_writesRule_9 : decode mX12_writesRule.2.1 9 = .ok (.iconst 0, 1) := by decide +kernel
theorem dX12_writesRule_10 : decode mX12_writesRule.2.1 10 = .ok (.invokevirtual 637, 3) := by decide +kernel
-- 10 invokevirtual X12_writes: link wd_2258 init wd_122 inst wd_2260 sel wd_108
theorem dX12_writesRule_13 : decode mX12_writesRule.2.1 13 = .ok (.iconst 0, 1) := by decide +kernel
theorem dX12_writesRule_14 : decode mX12_writesRule.2.1 14 = .ok (.istore_n 3, 1) := by decide +kernel
theorem dX12_writesRule_15 : decode mX12_writesRule.2.1 15 = .ok (.iload_n 3, 1) := by decide +kernel
theorem dX12_writesRule_16 : decode mX12_writesRule.2.1 16 = .ok (.aload_n 0, 1) := by decide +kernel
theorem dX12_writesRule_17 : decode mX12_writesRule.2.1 17 = .ok (.getfield 25, 3) := by decide +kernel
-- 17 getfield wordMany: wd_1557
theorem dX12_writesRule_20 : decode mX12_writesRule.2.1 20 = .ok (.iload_n 1, 1) := by decide +kernel
theorem dX12_writesRule_21 : decode mX12_writesRule.2.1 21 = .ok (.aaload, 1) := by decide +kernel
theorem dX12_writesRule_22 : decode mX12_writesRule.2.1 22 = .ok (.iload_n 2, 1) := by decide +kernel
theorem dX12_writesRule_23 : decode mX12_writesRule.2.1 23 = .ok (.iaload, 1) := by decide +kernel
theorem dX12_writesRule_24 : decode mX12_writesRule.2.1 24 = .ok (.if_icmp .ge 41, 3) := by decide +kernel
theorem dX12_writesRule_27 : decode mX12_writesRule.2.1 27 = .ok (.iload_n 3, 1) := by decide +kernel
theorem dX12_writesRule_28 : decode mX12_writesRule.2.1 28 = .ok (.ifCond .le 11, 3) := by decide +kernel
theorem dX12_writesRule_31 : decode mX12_writesRule.2.1 31 = .ok (.aload_n 0, 1) := by decide +kernel
theorem dX12_writesRule_32 : decode mX12_writesRule.2.1 32 = .ok (.ldc_w 398, 3) := by decide +kernel
-- 32 ldc String 77
theorem dX12_writesRule_35 : decode mX12_writesRule.2.1 35 = .ok (.iconst 0, 1) := by decide +kernel
theorem dX12_writesRule_36 : decode mX12_writesRule.2.1 36 = .ok (.invokevirtual 637, 3) := by decide +kernel
-- 36 invokevirtual X12_writes: link wd_2258 init wd_122 inst wd_2260 sel wd_108
theorem dX12_writesRule_39 : decode mX12_writesRule.2.1 39 = .ok (.aload_n 0, 1) := by decide +kernel
theorem dX12_writesRule_40 : decode mX12_writesRule.2.1 40 = .ok (.aload_n 0, 1) := by decide +kernel
theorem dX12_writesRule_41 : decode mX12_writesRule.2.1 41 = .ok (.getfield 92, 3) := by decide +kernel
-- 41 getfield kinWords: wd_1571
theorem dX12_writesRule_44 : decode mX12_writesRule.2.1 44 = .ok (.aload_n 0, 1) := by decide +kernel
theorem dX12_writesRule_45 : decode mX12_writesRule.2.1 45 = .ok (.getfield 36, 3) := by decide +kernel
-- 45 getfield words: wd_1560
theorem dX12_writesRule_48 : decode mX12_writesRule.2.1 48 = .ok (.iload_n 1, 1) := by decide +kernel
theorem dX12_writesRule_49 : decode mX12_writesRule.2.1 49 = .ok (.aaload, 1) := by decide +kernel
theorem dX12_writesRule_50 : decode mX12_writesRule.2.1 50 = .ok (.iload_n 2, 1) := by decide +kernel
theorem dX12_writesRule_51 : decode mX12_writesRule.2.1 51 = .ok (.aaload, 1) := by decide +kernel
theorem dX12_writesRule_52 : decode mX12_writesRule.2.1 52 = .ok (.iload_n 3, 1) := by decide +kernel
theorem dX12_writesRule_53 : decode mX12_writesRule.2.1 53 = .ok (.iaload, 1) := by decide +kernel
theorem dX12_writesRule_54 : decode mX12_writesRule.2.1 54 = .ok (.aaload, 1) := by decide +kernel
theorem dX12_writesRule_55 : decode mX12_writesRule.2.1 55 = .ok (.iconst 0, 1) := by decide +kernel
theorem dX12_writesRule_56 : decode mX12_writesRule.2.1 56 = .ok (.invokevirtual 637, 3) := by decide +kernel
-- 56 invokevirtual X12_writes: link wd_2258 init wd_122 inst wd_2260 sel wd_108
theorem dX12_writesRule_59 : decode mX12_writesRule.2.1 59 = .ok (.iinc 3 1, 3) := by decide +kernel
theorem dX12_writesRule_62 : decode mX12_writesRule.2.1 62 = .ok (.goto (-47), 3) := by decide +kernel
theorem dX12_writesRule_65 : decode mX12_writesRule.2.1 65 = .ok (.aload_n 0, 1) := by decide +kernel
theorem dX12_writesRule_66 : decode mX12_writesRule.2.1 66 = .ok (.ldc_w 641, 3) := by decide +kernel
-- 66 ldc String 87
theorem dX12_writesRule_69 : decode mX12_writesRule.2.1 69 = .ok (.iconst 1, 1) := by decide +kernel
theorem dX12_writesRule_70 : decode mX12_writesRule.2.1 70 = .ok (.invokevirtual 637, 3) := by decide +kernel
-- 70 invokevirtual X12_writes: link wd_2258 init wd_122 inst wd_2260 sel wd_108
theorem dX12_writesRule_73 : decode mX12_writesRule.2.1 73 = .ok (.iconst 0, 1) := by decide +kernel
theorem dX12_writesRule_74 : decode mX12_writesRule.2.1 74 = .ok (.istore_n 3, 1) := by decide +kernel
theorem dX12_writesRule_75 : decode mX12_writesRule.2.1 75 = .ok (.iload_n 3, 1) := by decide +kernel
theorem dX12_writesRule_76 : decode mX12_writesRule.2.1 76 = .ok (.aload_n 0, 1) := by decide +kernel
theorem dX12_writesRule_77 : decode mX12_writesRule.2.1 77 = .ok (.getfield 28, 3) := by decide +kernel
-- 77 getfield stageMany: wd_1558
theorem dX12_writesRule_80 : decode mX12_writesRule.2.1 80 = .ok (.iload_n 1, 1) := by decide +kernel
theorem dX12_writesRule_81 : decode mX12_writesRule.2.1 81 = .ok (.aaload, 1) := by decide +kernel
theorem dX12_writesRule_82 : decode mX12_writesRule.2.1 82 = .ok (.iload_n 2, 1) := by decide +kernel
theorem dX12_writesRule_83 : decode mX12_writesRule.2.1 83 = .ok (.iaload, 1) := by decide +kernel
theorem dX12_writesRule_84 : decode mX12_writesRule.2.1 84 = .ok (.if_icmp .ge 105, 3) := by decide +kernel
theorem dX12_writesRule_87 : decode mX12_writesRule.2.1 87 = .ok (.iload_n 3, 1) := by decide +kernel
theorem dX12_writesRule_88 : decode mX12_writesRule.2.1 88 = .ok (.ifCond .le 11, 3) := by decide +kernel
theorem dX12_writesRule_91 : decode mX12_writesRule.2.1 91 = .ok (.aload_n 0, 1) := by decide +kernel
theorem dX12_writesRule_92 : decode mX12_writesRule.2.1 92 = .ok (.ldc_w 643, 3) := by decide +kernel
-- 92 ldc String 88
theorem dX12_writesRule_95 : decode mX12_writesRule.2.1 95 = .ok (.iconst 1, 1) := by decide +kernel
theorem dX12_writesRule_96 : decode mX12_writesRule.2.1 96 = .ok (.invokevirtual 637, 3) := by decide +kernel
-- 96 invokevirtual X12_writes: link wd_2258 init wd_122 inst wd_2260 sel wd_108
theorem dX12_writesRule_99 : decode mX12_writesRule.2.1 99 = .ok (.aload_n 0, 1) := by decide +kernel
theorem dX12_writesRule_100 : decode mX12_writesRule.2.1 100 = .ok (.aload_n 0, 1) := by decide +kernel
theorem dX12_writesRule_101 : decode mX12_writesRule.2.1 101 = .ok (.getfield 106, 3) := by decide +kernel
-- 101 getfield depthWords: wd_1572
theorem dX12_writesRule_104 : decode mX12_writesRule.2.1 104 = .ok (.aload_n 0, 1) := by decide +kernel
theorem dX12_writesRule_105 : decode mX12_writesRule.2.1 105 = .ok (.getfield 39, 3) := by decide +kernel
-- 105 getfield stages: wd_1561
theorem dX12_writesRule_108 : decode mX12_writesRule.2.1 108 = .ok (.iload_n 1, 1) := by decide +kernel
theorem dX12_writesRule_109 : decode mX12_writesRule.2.1 109 = .ok (.aaload, 1) := by decide +kernel
theorem dX12_writesRule_110 : decode mX12_writesRule.2.1 110 = .ok (.iload_n 2, 1) := by decide +kernel
theorem dX12_writesRule_111 : decode mX12_writesRule.2.1 111 = .ok (.aaload, 1) := by decide +kernel
theorem dX12_writesRule_112 : decode mX12_writesRule.2.1 112 = .ok (.iconst 3, 1) := by decide +kernel
theorem dX12_writesRule_113 : decode mX12_writesRule.2.1 113 = .ok (.iload_n 3, 1) := by decide +kernel
theorem dX12_writesRule_114 : decode mX12_writesRule.2.1 114 = .ok (.imul, 1) := by decide +kernel
theorem dX12_writesRule_115 : decode mX12_writesRule.2.1 115 = .ok (.iaload, 1) := by decide +kernel
theorem dX12_writesRule_116 : decode mX12_writesRule.2.1 116 = .ok (.aaload, 1) := by decide +kernel
theorem dX12_writesRule_117 : decode mX12_writesRule.2.1 117 = .ok (.iconst 0, 1) := by decide +kernel
theorem dX12_writesRule_118 : decode mX12_writesRule.2.1 118 = .ok (.invokevirtual 637, 3) := by decide +kernel
-- 118 invokevirtual X12_writes: link wd_2258 init wd_122 inst wd_2260 sel wd_108
theorem dX12_writesRule_121 : decode mX12_writesRule.2.1 121 = .ok (.aload_n 0, 1) := by decide +kernel
theorem dX12_writesRule_122 : decode mX12_writesRule.2.1 122 = .ok (.new 645, 3) := by decide +kernel
-- 122 new ('K', 'java/lang/StringBuilder'): wd_2264
theorem dX12_writesRule_125 : decode mX12_writesRule.2.1 125 = .ok (.dup, 1) := by decide +kernel
theorem dX12_writesRule_126 : decode mX12_writesRule.2.1 126 = .ok (.invokespecial 647, 3) := by decide +kernel
-- 126 invokespecial J4_init_da8c8: link wd_2266 init wd_132 inst wd_2267
theorem dX12_writesRule_129 : decode mX12_writesRule.2.1 129 = .ok (.ldc_w 648, 3) := by decide +kernel
-- 129 ldc String 89
theorem dX12_writesRule_132 : decode mX12_writesRule.2.1 132 = .ok (.invokevirtual 650, 3) := by decide +kernel
-- 132 invokevirtual J4_append_15ec4: link wd_2295 init wd_132 inst wd_2296 sel wd_2297
theorem dX12_writesRule_135 : decode mX12_writesRule.2.1 135 = .ok (.aload_n 0, 1) := by decide +kernel
theorem dX12_writesRule_136 : decode mX12_writesRule.2.1 136 = .ok (.getfield 39, 3) := by decide +kernel
-- 136 getfield stages: wd_1561
theorem dX12_writesRule_139 : decode mX12_writesRule.2.1 139 = .ok (.iload_n 1, 1) := by decide +kernel
theorem dX12_writesRule_140 : decode mX12_writesRule.2.1 140 = .ok (.aaload, 1) := by decide +kernel
theorem dX12_writesRule_141 : decode mX12_writesRule.2.1 141 = .ok (.iload_n 2, 1) := by decide +kernel
theorem dX12_writesRule_142 : decode mX12_writesRule.2.1 142 = .ok (.aaload, 1) := by decide +kernel
theorem dX12_writesRule_143 : decode mX12_writesRule.2.1 143 = .ok (.iconst 3, 1) := by decide +kernel
theorem dX12_writesRule_144 : decode mX12_writesRule.2.1 144 = .ok (.iload_n 3, 1) := by decide +kernel
theorem dX12_writesRule_145 : decode mX12_writesRule.2.1 145 = .ok (.imul, 1) := by decide +kernel
theorem dX12_writesRule_146 : decode mX12_writesRule.2.1 146 = .ok (.iconst 1, 1) := by decide +kernel
theorem dX12_writesRule_147 : decode mX12_writesRule.2.1 147 = .ok (.iadd, 1) := by decide +kernel
theorem dX12_writesRule_148 : decode mX12_writesRule.2.1 148 = .ok (.iaload, 1) := by decide +kernel
theorem dX12_writesRule_149 : decode mX12_writesRule.2.1 149 = .ok (.invokevirtual 654, 3) := by decide +kernel
-- 149 invokevirtual J4_append_bf812: link wd_2392 init wd_132 inst wd_2393 sel wd_2394
theorem dX12_writesRule_152 : decode mX12_writesRule.2.1 152 = .ok (.invokevirtual 657, 3) := by decide +kernel
-- 152 invokevirtual J4_toString_0e30d: link wd_2417 init wd_132 inst wd_2418 sel wd_2419
theorem dX12_writesRule_155 : decode mX12_writesRule.2.1 155 = .ok (.iconst 0, 1) := by decide +kernel
theorem dX12_writesRule_156 : decode mX12_writesRule.2.1 156 = .ok (.invokevirtual 637, 3) := by decide +kernel
-- 156 invokevirtual X12_writes: link wd_2258 init wd_122 inst wd_2260 sel wd_108
theorem dX12_writesRule_159 : decode mX12_writesRule.2.1 159 = .ok (.aload_n 0, 1) := by decide +kernel
theorem dX12_writesRule_160 : decode mX12_writesRule.2.1 160 = .ok (.aload_n 0, 1) := by decide +kernel
theorem dX12_writesRule_161 : decode mX12_writesRule.2.1 161 = .ok (.getfield 117, 3) := by decide +kernel
-- 161 getfield unitWords: wd_1573
theorem dX12_writesRule_164 : decode mX12_writesRule.2.1 164 = .ok (.aload_n 0, 1) := by decide +kernel
theorem dX12_writesRule_165 : decode mX12_writesRule.2.1 165 = .ok (.getfield 39, 3) := by decide +kernel
-- 165 getfield stages: wd_1561
theorem dX12_writesRule_168 : decode mX12_writesRule.2.1 168 = .ok (.iload_n 1, 1) := by decide +kernel
theorem dX12_writesRule_169 : decode mX12_writesRule.2.1 169 = .ok (.aaload, 1) := by decide +kernel
theorem dX12_writesRule_170 : decode mX12_writesRule.2.1 170 = .ok (.iload_n 2, 1) := by decide +kernel
theorem dX12_writesRule_171 : decode mX12_writesRule.2.1 171 = .ok (.aaload, 1) := by decide +kernel
theorem dX12_writesRule_172 : decode mX12_writesRule.2.1 172 = .ok (.iconst 3, 1) := by decide +kernel
theorem dX12_writesRule_173 : decode mX12_writesRule.2.1 173 = .ok (.iload_n 3, 1) := by decide +kernel
theorem dX12_writesRule_174 : decode mX12_writesRule.2.1 174 = .ok (.imul, 1) := by decide +kernel
theorem dX12_writesRule_175 : decode mX12_writesRule.2.1 175 = .ok (.iconst 2, 1) := by decide +kernel
theorem dX12_writesRule_176 : decode mX12_writesRule.2.1 176 = .ok (.iadd, 1) := by decide +kernel
theorem dX12_writesRule_177 : decode mX12_writesRule.2.1 177 = .ok (.iaload, 1) := by decide +kernel
theorem dX12_writesRule_178 : decode mX12_writesRule.2.1 178 = .ok (.aaload, 1) := by decide +kernel
theorem dX12_writesRule_179 : decode mX12_writesRule.2.1 179 = .ok (.iconst 0, 1) := by decide +kernel
theorem dX12_writesRule_180 : decode mX12_writesRule.2.1 180 = .ok (.invokevirtual 637, 3) := by decide +kernel
-- 180 invokevirtual X12_writes: link wd_2258 init wd_122 inst wd_2260 sel wd_108
theorem dX12_writesRule_183 : decode mX12_writesRule.2.1 183 = .ok (.iinc 3 1, 3) := by decide +kernel
theorem dX12_writesRule_186 : decode mX12_writesRule.2.1 186 = .ok (.goto (-111), 3) := by decide +kernel
theorem dX12_writesRule_189 : decode mX12_writesRule.2.1 189 = .ok (.iconst 0, 1) := by decide +kernel
theorem dX12_writesRule_190 : decode mX12_writesRule.2.1 190 = .ok (.istore_n 3, 1) := by decide +kernel
theorem dX12_writesRule_191 : decode mX12_writesRule.2.1 191 = .ok (.iload_n 3, 1) := by decide +kernel
theorem dX12_writesRule_192 : decode mX12_writesRule.2.1 192 = .ok (.iconst 4, 1) := by decide +kernel
theorem dX12_writesRule_193 : decode mX12_writesRule.2.1 193 = .ok (.if_icmp .ge 58, 3) := by decide +kernel
theorem dX12_writesRule_196 : decode mX12_writesRule.2.1 196 = .ok (.aload_n 0, 1) := by decide +kernel
theorem dX12_writesRule_197 : decode mX12_writesRule.2.1 197 = .ok (.getfield 31, 3) := by decide +kernel
-- 197 getfield flags: wd_1559
theorem dX12_writesRule_200 : decode mX12_writesRule.2.1 200 = .ok (.iload_n 1, 1) := by decide +kernel
theorem dX12_writesRule_201 : decode mX12_writesRule.2.1 201 = .ok (.aaload, 1) := by decide +kernel
theorem dX12_writesRule_202 : decode mX12_writesRule.2.1 202 = .ok (.iload_n 2, 1) := by decide +kernel
theorem dX12_writesRule_203 : decode mX12_writesRule.2.1 203 = .ok (.iaload, 1) := by decide +kernel
theorem dX12_writesRule_204 : decode mX12_writesRule.2.1 204 = .ok (.iload_n 3, 1) := by decide +kernel
theorem dX12_writesRule_205 : decode mX12_writesRule.2.1 205 = .ok (.ishr, 1) := by decide +kernel
theorem dX12_writesRule_206 : decode mX12_writesRule.2.1 206 = .ok (.iconst 1, 1) := by decide +kernel
theorem dX12_writesRule_207 : decode mX12_writesRule.2.1 207 = .ok (.iand, 1) := by decide +kernel
theorem dX12_writesRule_208 : decode mX12_writesRule.2.1 208 = .ok (.ifCond .ne 6, 3) := by decide +kernel
theorem dX12_writesRule_211 : decode mX12_writesRule.2.1 211 = .ok (.goto 34, 3) := by decide +kernel
theorem dX12_writesRule_214 : decode mX12_writesRule.2.1 214 = .ok (.aload_n 0, 1) := by decide +kernel
theorem dX12_writesRule_215 : decode mX12_writesRule.2.1 215 = .ok (.ldc_w 661, 3) := by decide +kernel
-- 215 ldc String 90
theorem dX12_writesRule_218 : decode mX12_writesRule.2.1 218 = .ok (.iconst 1, 1) := by decide +kernel
theorem dX12_writesRule_219 : decode mX12_writesRule.2.1 219 = .ok (.invokevirtual 637, 3) := by decide +kernel
-- 219 invokevirtual X12_writes: link wd_2258 init wd_122 inst wd_2260 sel wd_108
theorem dX12_writesRule_222 : decode mX12_writesRule.2.1 222 = .ok (.aload_n 0, 1) := by decide +kernel
theorem dX12_writesRule_223 : decode mX12_writesRule.2.1 223 = .ok (.aload_n 0, 1) := by decide +kernel
theorem dX12_writesRule_224 : decode mX12_writesRule.2.1 224 = .ok (.getfield 139, 3) := by decide +kernel
-- 224 getfield optionWords: wd_1575
theorem dX12_writesRule_227 : decode mX12_writesRule.2.1 227 = .ok (.iload_n 3, 1) := by decide +kernel
theorem dX12_writesRule_228 : decode mX12_writesRule.2.1 228 = .ok (.aaload, 1) := by decide +kernel
theorem dX12_writesRule_229 : decode mX12_writesRule.2.1 229 = .ok (.iconst 0, 1) := by decide +kernel
theorem dX12_writesRule_230 : decode mX12_writesRule.2.1 230 = .ok (.invokevirtual 637, 3) := by decide +kernel
-- 230 invokevirtual X12_writes: link wd_2258 init wd_122 inst wd_2260 sel wd_108
theorem dX12_writesRule_233 : decode mX12_writesRule.2.1 233 = .ok (.iload_n 3, 1) := by decide +kernel
theorem dX12_writesRule_234 : decode mX12_writesRule.2.1 234 = .ok (.ifCond .ne 11, 3) := by decide +kernel
theorem dX12_writesRule_237 : decode mX12_writesRule.2.1 237 = .ok (.aload_n 0, 1) := by decide +kernel
theorem dX12_writesRule_238 : decode mX12_writesRule.2.1 238 = .ok (.ldc_w 390, 3) := by decide +kernel
-- 238 ldc String 78
theorem dX12_writesRule_241 : decode mX12_writesRule.2.1 241 = .ok (.iconst 0, 1) := by decide +kernel
theorem dX12_writesRule_242 : decode mX12_writesRule.2.1 242 = .ok (.invokevirtual 637, 3) := by decide +kernel
-- 242 invokevirtual X12_writes: link wd_2258 init wd_122 inst wd_2260 sel wd_108
theorem dX12_writesRule_245 : decode mX12_writesRule.2.1 245 = .ok (.iinc 3 1, 3) := by decide +kernel
theorem dX12_writesRule_248 : decode mX12_writesRule.2.1 248 = .ok (.goto (-57), 3) := by decide +kernel
theorem dX12_writesRule_251 : decode mX12_writesRule.2.1 251 = .ok (.return_, 1) := by decide +kernel
-- J5_init_d00df 1 Object.init: link wd_2272 inst wd_142 code wd_143
-- J5_init_d00df 12 newarray .byte: wd_916
-- J0_getBytes_840e7 22 arraycopy: link wd_2390 static wd_2335 native wd_2336 init wd_135
-- J4_toString_0e30d 0 new java/lang/String: wd_2421 init wd_124 inst wd_2422
-- J0_init_db425 1 Object.init: link wd_2429 inst wd_142 code wd_143
-- J7_copyOfRangeByte_39247 10 newarray .byte: wd_916
-- J7_copyOfRangeByte_39247 27 arraycopy: link wd_2334 static wd_2335 native wd_2336 init wd_135
-- X12_writesRule 122 new java/lang/StringBuilder: wd_2264 init wd_132 inst wd_2265
-- wd_2293: superclass "java/lang/StringBuilder" "java/lang/AbstractStringBuilder"
-- wd_2339: sameMethod "java/lang/AbstractStringBuilder" "java/lang/AbstractStringBuilder" "isLatin1" "()Z"
-- wd_2340: selects "java/lang/StringBuilder" ⟨"java/lang/AbstractStringBuilder", "isLatin1", "()Z"⟩ ⟨"java/lang/AbstractStringBuilder", "isLatin1", "()Z"⟩
-- wd_2432: sameMethod "java/lang/AbstractStringBuilder" "java/lang/AbstractStringBuilder" "getValue" "()[B"
-- wd_2433: selects "java/lang/StringBuilder" ⟨"java/lang/AbstractStringBuilder", "getValue", "()[B"⟩ ⟨"java/lang/AbstractStringBuilder", "getValue", "()[B"⟩
-- wd_2437: sameMethod "java/lang/AbstractStringBuilder" "java/lang/AbstractStringBuilder" "length" "()I"
-- wd_2438: selects "java/lang/StringBuilder" ⟨"java/lang/AbstractStringBuilder", "length", "()I"⟩ ⟨"java/lang/StringBuilder", "length", "()I"⟩
-- wd_2439: instanceMethod ⟨"java/lang/StringBuilder", "length", "()I"⟩
-- wd_2503: sameMethod "java/lang/AbstractStringBuilder" "java/lang/AbstractStringBuilder" "append" "(Ljava/lang/String;)Ljava/lang/AbstractStringBuilder;"
-- wd_2505: sameMethod "java/lang/AbstractStringBuilder" "java/lang/AbstractStringBuilder" "ensureCapacityInternal" "(I)V"
-- wd_2507: sameMethod "java/lang/AbstractStringBuilder" "java/lang/AbstractStringBuilder" "putStringAt" "(ILjava/lang/String;)V"
-- wd_2508: sameMethod "java/lang/AbstractStringBuilder" "java/lang/AbstractStringBuilder" "inflateIfNeededFor" "(Ljava/lang/String;)V"
-- wd_2510: sameMethod "java/lang/AbstractStringBuilder" "java/lang/AbstractStringBuilder" "append" "(I)Ljava/lang/AbstractStringBuilder;"
